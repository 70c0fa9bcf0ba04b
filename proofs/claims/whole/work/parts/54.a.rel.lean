/-! THE RELATION of the class's state and the reference's -/
def wdt (w : Nat → Nat) (g : Nat) : Nat := if w g = 0 then 20 else w g
/-- the tape -/
def RT (b : Nat → Int32) (s M : St) : Prop := ∃ (n : Nat) (h : Nat → Nat), n ≤ 1500 ∧ s.1 1 = nI n ∧ M.1 1 = nI n ∧ ∀ i, i < n → h i < 256 ∧ b i = sb (h i) ∧ M.2 0 i = nI (h i)
/-- the script -/
def RS (s M : St) (tg tt im bt cn : Nat) (w v bar tm : Nat → Nat) : Prop :=
  (s.1 0 = nI tg ∧ M.1 3 = nI tg ∧ 1 ≤ tg ∧ tg ≤ 4) ∧ (s.1 1 = nI tt ∧ M.1 8 = nI tt ∧ tt ≤ 40) ∧ (s.1 2 = nI cn ∧ M.1 14 = nI cn) ∧ (s.1 3 = nI im ∧ M.1 7 = nI im ∧ im ≤ 40) ∧
  (s.1 4 = nI bt ∧ M.1 6 = nI (if bt = 0 then 4 else bt) ∧ bt ≤ 8) ∧
  (∀ t, t < 4 → s.2 5 t = nI (w t) ∧ M.2 4 t = nI (wdt w t) ∧ w t ≤ 40) ∧
  (∀ t, t < 4 → s.2 6 t = nI (v t) ∧ M.2 5 t = nI (if v t = 0 then 4 else v t) ∧ v t ≤ 20) ∧
  (∀ k, k < im → s.2 9 k = nI (bar k) ∧ M.2 9 k = nI (bar k) ∧ bar k ≤ 999) ∧ (∀ k, k + 1 < im → bar k < bar (k + 1)) ∧
  (∀ t, t < tt → s.2 10 t = nI (tm t) ∧ M.2 11 t = nI (tm t) ∧ tm t < im ∧ M.2 10 (tm t) = nI t) ∧
  (∀ k, k < im → (∃ t, t < tt ∧ tm t = k) ∨ M.2 10 k = -1)
/-- the script's strings -/
def RX (b : Nat → Int32) (s M : St) (tg tt : Nat) (w fr ns : Nat → Nat) (hs : Nat → Nat → Nat) : Prop := ∀ t g, t < tt → g < tg →
  (s.2 11 (4 * t + g) = nI (fr (4 * t + g)) ∧ s.2 12 (4 * t + g) = nI (ns (4 * t + g)) ∧ fr (4 * t + g) + ns (4 * t + g) ≤ 1500) ∧ PrpA (hs (4 * t + g)) (ns (4 * t + g)) ∧ (∀ i, i < ns (4 * t + g) → b (fr (4 * t + g) + i) = nI (hs (4 * t + g) i)) ∧
  (∃ (W : Nat) (wb we : Nat → Nat), Wds (hs (4 * t + g)) (ns (4 * t + g)) W wb we ∧ fitP W (wdt w g) wb we) ∧
  ∃ κ, κ < 160 ∧ (if M.2 17 (4 * t + g) = 0 then κ = 4 * t else κ = 4 * t + g) ∧ M.2 16 κ = nI (ns (4 * t + g)) ∧ ∀ i, i < ns (4 * t + g) → M.2 15 (500 * κ + i) = nI (hs (4 * t + g) i)
/-- the evening -/
def RE (e s M : St) (on : Nat → Bool) (cf ct : Nat → Nat) : Prop := EvC e s on cf ct ∧ EvM M on cf ct ∧ (∃ p, e.1 0 = nI p ∧ M.1 22 = nI p ∧ p ≤ 999 ∧ ¬ isC on cf ct p) ∧ ∃ (f : Bool) (d : Nat), e.1 1 = nI (b1 f) ∧ M.1 23 = nI (b1 f) ∧ e.1 2 = nI d ∧ M.1 24 = nI d ∧ d ≤ 3 ∧ (f = true → d < 3) ∧ (0 < d → e.1 3 = M.1 25)
/-- the wordings -/
def RW (r1 : Nat) (F : FSt) (Lk : List Nat) (ck : Nat → Nat × (Nat → Int32)) (M : St) (tg tt : Nat) (w ns : Nat → Nat) (hs : Nat → Nat → Nat) (ch : Nat → Bool) : Prop :=
  (F.2 160 ∈ Lk ∧ (F.1 160).1 4 = 0) ∧ (∀ κ, κ < 160 → M.2 19 κ = nI (b1 (ch κ)) ∧ (ch κ = true → κ / 4 < tt ∧ κ % 4 < tg)) ∧
  ∀ t g, t < tt → g < tg → ∃ (f n : Nat) (h : Nat → Nat), (F.2 (4 * t + g) ∈ Lk ∧ F.2 (4 * t + g) ≠ r1) ∧ ((F.1 (4 * t + g)).1 1 = nI f ∧ (F.1 (4 * t + g)).1 2 = nI n ∧ (F.1 (4 * t + g)).1 3 = nI (b1 (ch (4 * t + g)))) ∧
    (f + n ≤ (ck (F.2 (4 * t + g))).1 ∧ (ck (F.2 (4 * t + g))).1 ≤ 1500 ∧ PrpA h n ∧ ∀ i, i < n → (ck (F.2 (4 * t + g))).2 (f + i) = nI (h i)) ∧
    (∃ (W : Nat) (wb we : Nat → Nat), Wds h n W wb we ∧ fitP W (wdt w g) wb we ∧ Lw (F.1 (4 * t + g)) W (wdt w g) wb we) ∧
    ((ch (4 * t + g) = false ∧ n = ns (4 * t + g) ∧ ∀ i, i < n → h i = hs (4 * t + g) i) ∨ (ch (4 * t + g) = true ∧ M.2 21 (4 * t + g) = nI n ∧ ∀ i, i < n → M.2 20 (500 * (4 * t + g) + i) = nI (h i)))
/-- the fault -/
def RF (s M : St) : Prop := s.1 0 = M.1 39 ∧ s.1 1 = M.1 40
/-- the rows of bytes, and what never changes -/
def RR (r1 r2 : Nat) (Lk : List Nat) (ck : Nat → Nat × (Nat → Int32)) (M : St) : Prop := r1 ≠ r2 ∧ r1 ∈ Lk ∧ r2 ∈ Lk ∧ (ck r1).1 = 1500 ∧ (ck r2).1 = 1500 ∧ M.2 54 = s10i.2 54
def Rel (r1 r2 : Nat) (s1 _s2 s3 _s4 s5 _s6 _s9 _s10 s11 : St) (s12 : FSt) (Lk : List Nat) (ck : Nat → Nat × (Nat → Int32)) (M : St) : Prop :=
  ∃ (tg tt im bt cn : Nat) (w v bar tm fr ns : Nat → Nat) (hs : Nat → Nat → Nat) (on ch : Nat → Bool) (cf ct : Nat → Nat),
    RT (ck r1).2 s1 M ∧ RS s3 M tg tt im bt cn w v bar tm ∧ RX (ck r2).2 s3 M tg tt w fr ns hs ∧ RE s11 s3 M on cf ct ∧ RW r1 s12 Lk ck M tg tt w ns hs ch ∧ RF s5 M ∧ RR r1 r2 Lk ck M
/-- the reference's fields that count -/
def cS (x : Nat) : Bool := x == 1 || (3 ≤ x && x ≤ 25) || x == 39 || x == 40
def cA (x : Nat) : Bool := x ≤ 25 || x == 54
def MC (M M' : St) : Prop := (∀ x, cS x = true → M'.1 x = M.1 x) ∧ ∀ x, cA x = true → M'.2 x = M.2 x
theorem MC.trans {A B C : St} (h : MC A B) (g : MC B C) : MC A C := ⟨fun x hx => (g.1 x hx).trans (h.1 x hx), fun x hx => (g.2 x hx).trans (h.2 x hx)⟩
theorem MC.refl (A : St) : MC A A := ⟨fun _ _ => rfl, fun _ _ => rfl⟩
theorem FrL.mc {A B : St} (h : FrL A B) : MC A B := ⟨fun x hx => h.1 x (fun e => by rw [e] at hx; exact absurd hx (by decide)) (fun e => by rw [e] at hx; exact absurd hx (by decide)) (fun e => by rw [e] at hx; exact absurd hx (by decide)), fun x hx => h.2 x (fun e => by rw [e] at hx; exact absurd hx (by decide)) (fun e => by rw [e] at hx; exact absurd hx (by decide)) (fun e => by rw [e] at hx; exact absurd hx (by decide)) (fun e => by rw [e] at hx; exact absurd hx (by decide)) (fun e => by rw [e] at hx; exact absurd hx (by decide))⟩
theorem MC_t (M : St) (v : Int32) : MC M (sF M 2 v) := ⟨fun x hx => by rw [sF_1, if_neg (fun e => by rw [e] at hx; exact absurd hx (by decide))], fun _ _ => rfl⟩
section MCS
variable {M M' : St}
theorem RT.mc (m : MC M M') {b : Nat → Int32} {s : St} (h : RT b s M) : RT b s M' := by
  unfold RT at *
  rw [m.1 1 (by decide), m.2 0 (by decide)]
  exact h
theorem RS.mc (m : MC M M') {s : St} {tg tt im bt cn : Nat} {w v bar tm : Nat → Nat} (h : RS s M tg tt im bt cn w v bar tm) : RS s M' tg tt im bt cn w v bar tm := by
  unfold RS at *
  rw [m.1 3 (by decide), m.1 8 (by decide), m.1 14 (by decide), m.1 7 (by decide), m.1 6 (by decide), m.2 4 (by decide), m.2 5 (by decide), m.2 9 (by decide), m.2 10 (by decide), m.2 11 (by decide)]
  exact h
theorem RX.mc (m : MC M M') {b : Nat → Int32} {s : St} {tg tt : Nat} {w fr ns : Nat → Nat} {hs : Nat → Nat → Nat} (h : RX b s M tg tt w fr ns hs) : RX b s M' tg tt w fr ns hs := by
  unfold RX at *
  rw [m.2 15 (by decide), m.2 16 (by decide), m.2 17 (by decide)]
  exact h
theorem RE.mc (m : MC M M') {e s : St} {on : Nat → Bool} {cf ct : Nat → Nat} (h : RE e s M on cf ct) : RE e s M' on cf ct := by
  unfold RE EvM at *
  rw [m.1 22 (by decide), m.1 23 (by decide), m.1 24 (by decide), m.1 25 (by decide), m.2 18 (by decide), m.2 12 (by decide), m.2 13 (by decide)]
  exact h
theorem RW.mc (m : MC M M') {r1 : Nat} {F : FSt} {Lk : List Nat} {ck : Nat → Nat × (Nat → Int32)} {tg tt : Nat} {w ns : Nat → Nat} {hs : Nat → Nat → Nat} {ch : Nat → Bool} (h : RW r1 F Lk ck M tg tt w ns hs ch) : RW r1 F Lk ck M' tg tt w ns hs ch := by
  unfold RW at *
  rw [m.2 19 (by decide), m.2 20 (by decide), m.2 21 (by decide)]
  exact h
theorem RF.mc (m : MC M M') {s : St} (h : RF s M) : RF s M' := by
  unfold RF at *
  rw [m.1 39 (by decide), m.1 40 (by decide)]
  exact h
theorem RR.mc (m : MC M M') {r1 r2 : Nat} {Lk : List Nat} {ck : Nat → Nat × (Nat → Int32)} (h : RR r1 r2 Lk ck M) : RR r1 r2 Lk ck M' := by
  unfold RR at *
  rw [m.2 54 (by decide)]
  exact h
theorem Rel.mc (m : MC M M') {r1 r2 : Nat} {s1 s2 s3 s4 s5 s6 s9 s10 s11 : St} {s12 : FSt} {Lk : List Nat} {ck : Nat → Nat × (Nat → Int32)} (h : Rel r1 r2 s1 s2 s3 s4 s5 s6 s9 s10 s11 s12 Lk ck M) : Rel r1 r2 s1 s2 s3 s4 s5 s6 s9 s10 s11 s12 Lk ck M' := by
  obtain ⟨tg, tt, im, bt, cn, w, v, bar, tm, fr, ns, hs, on, ch, cf, ct, h1, h2, h3, h4, h5, h6, h7⟩ := h
  exact ⟨tg, tt, im, bt, cn, w, v, bar, tm, fr, ns, hs, on, ch, cf, ct, RT.mc m h1, RS.mc m h2, RX.mc m h3, RE.mc m h4, RW.mc m h5, RF.mc m h6, RR.mc m h7⟩
end MCS
