theorem fa_lt9 (a b : Int32) : a < b ↔ a.toInt < b.toInt := Int32.lt_iff_toInt_lt
abbrev T_all (Rel : Nat → Nat → St → St → St → St → St → St → St → St → St → FSt → List Nat → (Nat → Nat × (Nat → Int32)) → St → Prop) (fu : Nat) : Prop := T_feed Rel fu ∧ T_text Rel fu ∧ T_fault Rel fu ∧ T_begin Rel fu ∧ T_cut Rel fu ∧ T_change Rel fu ∧ T_heard Rel fu ∧ T_hand Rel fu ∧ T_title Rel fu ∧ T_pages Rel fu ∧ T_price Rel fu ∧ T_sign Rel fu ∧ T_shown Rel fu ∧ T_now Rel fu ∧ T_count Rel fu
set_option maxHeartbeats 4000000 in
set_option maxRecDepth 100000 in
theorem lw_loop {p : Program} {e : Env} {s : State} {m : MethodId} {below : List Frame} {meth : Method} {c : Code} {Q : State → Prop} (l : Launch) {b L : Nat} {xs : Nat → Int32} {A : Nat → Prop} {D : va_G} {cy : Nat → ClassId} {cL : ClassId} {adK adV : Nat → Nat} (hL : L ≤ 3072) (C : lawC p l s m meth c b L xs A D cy cL adK adV) (Rel : Nat → Nat → St → St → St → St → St → St → St → St → St → FSt → List Nat → (Nat → Nat × (Nat → Int32)) → St → Prop) (fu : Nat) (hT0 : T_all Rel fu) (h0 hm ho h5 h6 h7 h8 h9 h10 h11 : Nat) (am a9 a10 a11 a12 y12 : Nat → Nat) (hend : ∀ (H : Heap) (locs : List Loc) (ls : Array Slot) (k n : Nat), k ≤ 914 → n ≤ 946887 → va_S A s.heap H locs → W p l e room_1 s m #[Value.ref b] below meth c H locs k n Q (F0 m 812 ls [])) :
    ∀ (n j : Nat), L ≤ 6 * j + 6 * n + 5 → 6 * j ≤ L → ∀ (h1 h2 h3 h4 r5 r6 : Nat) (a3 a4 : Nat → Nat) (fo : Nat → Int64) (r1 r2 : Nat) (s1 s2 s3 s4 s5 s6 s9 s10 s11 : St) (s12 : FSt) (Lk : List Nat) (ck : Nat → Nat × (Nat → Int32)) (M : St) (H : Heap) (locs : List Loc) (ls : Array Slot), Rel r1 r2 s1 s2 s3 s4 s5 s6 s9 s10 s11 s12 Lk ck M → va_P D vwCl ([w9 cy h0 h1 h2 h3 h4 h5 h7 h11 s0i, w10 cy hm am M, wO cL ho fo, w6o cy h1 r1 s1, w6o cy h2 r2 s2, w5 cy h3 a3 s3, w5 cy h4 a4 s4, w3 cy h5 h6 r5 s5, w4 cy h6 r6 s6, w0 cy h7 h8 (a12 160) h9 h3 r2 s0i, wWa cy h8 a12, w1 cy h9 h10 a9 s9, wP cy h10 a10 s10, w2 cy h11 h3 a11 s11, wF cy a12 y12 s12, wK cy Lk ck] : List va_W).flatten H → va_D A ([w9 cy h0 h1 h2 h3 h4 h5 h7 h11 s0i, w10 cy hm am M, wO cL ho fo, w6o cy h1 r1 s1, w6o cy h2 r2 s2, w5 cy h3 a3 s3, w5 cy h4 a4 s4, w3 cy h5 h6 r5 s5, w4 cy h6 r6 s6, w0 cy h7 h8 (a12 160) h9 h3 r2 s0i, wWa cy h8 a12, w1 cy h9 h10 a9 s9, wP cy h10 a10 s10, w2 cy h11 h3 a11 s11, wF cy a12 y12 s12, wK cy Lk ck] : List va_W).flatten → va_S A s.heap H locs → lv_has ls 7 [(0, .ref b), (1, .ref h0), (2, .ref hm), (3, .ref ho), (4, .int (nI (6 * j)))] → W p l e room_1 s m #[Value.ref b] below meth c H locs (402 + j) (178887 + 1500 * j) Q (F0 m 23 ls []) := by
  obtain ⟨⟨hx, hb, hml, hown, hts⟩, ⟨hX, hbl, hbA, hA⟩, hE, hM, ⟨hT, hN⟩, hK, hKL, hst⟩ := id C
  have hLs : (Int32.ofNat L : Int32) = nI L := rfl
  obtain ⟨t_feed, t_text, t_fault, t_begin, t_cut, t_change, t_heard, t_hand, t_title, t_pages, t_price, t_sign, t_shown, t_now, t_count⟩ := hT0
  intro n
  induction n with
  | zero =>
    intro j hn hj h1 h2 h3 h4 r5 r6 a3 a4 fo r1 r2 s1 s2 s3 s4 s5 s6 s9 s10 s11 s12 Lk ck M H locs ls hR hP hD hS hl
    refine lv_iload hx hb dL_law_23 (lv_at hl 4 rfl) ?_
    refine lv_aload_n hx hb dL_law_25 rfl (lv_at hl 0 rfl) ?_
    refine va_slen hx hb hX hbl hbA hS dL_law_26 ?_
    refine lv_bipush (v := 6) hx hb dL_law_27 (by decide) ?_
    refine lv_isub hx hb dL_law_29 ?_
    refine lv_icmp_gt (tgt := 812) hx hb dL_law_30 (by decide) (fun c_ => ?_) (fun c_ => ?_)
    · exact hend _ _ ls _ _ (by omega) (by omega) hS
    · have hge : ¬ (nI L - nI 6 < nI (6 * j)) := c_
      rw [fa_lt9, pk_sub_toInt (by omega) (by decide), nI_toInt (by omega)] at hge
      exact absurd hn (by omega)
  | succ n ih =>
    intro j hn hj h1 h2 h3 h4 r5 r6 a3 a4 fo r1 r2 s1 s2 s3 s4 s5 s6 s9 s10 s11 s12 Lk ck M H locs ls hR hP hD hS hl
    refine lv_iload hx hb dL_law_23 (lv_at hl 4 rfl) ?_
    refine lv_aload_n hx hb dL_law_25 rfl (lv_at hl 0 rfl) ?_
    refine va_slen hx hb hX hbl hbA hS dL_law_26 ?_
    refine lv_bipush (v := 6) hx hb dL_law_27 (by decide) ?_
    refine lv_isub hx hb dL_law_29 ?_
    refine lv_icmp_gt (tgt := 812) hx hb dL_law_30 (by decide) (fun c_ => ?_) (fun c_ => ?_)
    · exact hend _ _ ls _ _ (by omega) (by omega) hS
    · have hge : ¬ (nI L - nI 6 < nI (6 * j)) := c_
      rw [fa_lt9, pk_sub_toInt (by omega) (by decide), nI_toInt (by omega)] at hge
      have hi : 6 * j + 6 ≤ L := by omega
      have kk : ∀ (h1 h2 h3 h4 r5 r6 : Nat) (a3 a4 : Nat → Nat) (fo : Nat → Int64) (r1 r2 : Nat) (s1 s2 s3 s4 s5 s6 s9 s10 s11 : St) (s12 : FSt) (Lk : List Nat) (ck : Nat → Nat × (Nat → Int32)) (M : St) (H : Heap) (locs : List Loc) (ls : Array Slot), Rel r1 r2 s1 s2 s3 s4 s5 s6 s9 s10 s11 s12 Lk ck M → va_P D vwCl ([w9 cy h0 h1 h2 h3 h4 h5 h7 h11 s0i, w10 cy hm am M, wO cL ho fo, w6o cy h1 r1 s1, w6o cy h2 r2 s2, w5 cy h3 a3 s3, w5 cy h4 a4 s4, w3 cy h5 h6 r5 s5, w4 cy h6 r6 s6, w0 cy h7 h8 (a12 160) h9 h3 r2 s0i, wWa cy h8 a12, w1 cy h9 h10 a9 s9, wP cy h10 a10 s10, w2 cy h11 h3 a11 s11, wF cy a12 y12 s12, wK cy Lk ck] : List va_W).flatten H → va_D A ([w9 cy h0 h1 h2 h3 h4 h5 h7 h11 s0i, w10 cy hm am M, wO cL ho fo, w6o cy h1 r1 s1, w6o cy h2 r2 s2, w5 cy h3 a3 s3, w5 cy h4 a4 s4, w3 cy h5 h6 r5 s5, w4 cy h6 r6 s6, w0 cy h7 h8 (a12 160) h9 h3 r2 s0i, wWa cy h8 a12, w1 cy h9 h10 a9 s9, wP cy h10 a10 s10, w2 cy h11 h3 a11 s11, wF cy a12 y12 s12, wK cy Lk ck] : List va_W).flatten → va_S A s.heap H locs → lv_has ls 7 [(0, .ref b), (1, .ref h0), (2, .ref hm), (3, .ref ho), (4, .int (nI (6 * j)))] → W p l e room_1 s m #[Value.ref b] below meth c H locs (402 + j + 1) (178887 + 1500 * j + 1500) Q (F0 m 806 ls []) := by
        clear hR hP hD hS hl
        intro h1 h2 h3 h4 r5 r6 a3 a4 fo r1 r2 s1 s2 s3 s4 s5 s6 s9 s10 s11 s12 Lk ck M H locs ls hR hP hD hS hl
        refine lv_iinc (v := nI (6 * j) + 6) (lv' := [(4, .int (nI (6 * j) + 6)), (0, .ref b), (1, .ref h0), (2, .ref hm), (3, .ref ho)]) hx hb dL_law_806 hl (k := 4) rfl rfl (by decide) rfl (fun ls hl => ?_)
        refine lv_goto (tgt := 23) hx hb dL_law_809 (by decide) ?_
        rw [show nI (6 * j) + 6 = nI (6 * (j + 1)) from (nI_add (6 * j) 6).trans (by rw [show 6 * j + 6 = 6 * (j + 1) by omega])] at hl
        refine W.widen (k := 402 + (j + 1)) (n := 178887 + 1500 * (j + 1)) (by omega) (by omega) ?_
        exact ih (j + 1) (by omega) (by omega) h1 h2 h3 h4 r5 r6 a3 a4 fo r1 r2 s1 s2 s3 s4 s5 s6 s9 s10 s11 s12 Lk ck M _ _ ls hR hP hD hS (lv_sub hl [1, 2, 3, 4, 0] rfl)
      refine lv_aload_n hx hb dL_law_33 rfl (lv_at hl 0 rfl) ?_
      refine lv_iload hx hb dL_law_34 (lv_at hl 4 rfl) ?_
      refine g_sld0 (i := 6 * j) hx hb hX hbl hbA hS hL (by omega) dL_law_36 ?_
      refine lv_bipush (v := 15) hx hb dL_law_37 (by decide) ?_
      refine lv_iand hx hb dL_law_39 ?_
      generalize xs (6 * j) &&& 15 = v
      by_cases c_0 : v = 0
      · refine lv_tableIn (tgt := 116) (off := 76) hx hb dL_law_40 (by rw [c_0]; decide) (by rw [c_0]; decide) (by rw [c_0]; decide) (by decide) ?_
        exact lw_feed l hL C Rel fu t_feed h0 hm ho h5 h6 h7 h8 h9 h10 h11 am a9 a10 a11 a12 y12 (6 * j) (402 + j) (178887 + 1500 * j) hi (by omega) (by omega) kk h1 h2 h3 h4 r5 r6 a3 a4 fo r1 r2 s1 s2 s3 s4 s5 s6 s9 s10 s11 s12 Lk ck M _ _ ls hR hP hD hS hl
      · skip
        by_cases c_1 : v = 1
        · refine lv_tableIn (tgt := 189) (off := 149) hx hb dL_law_40 (by rw [c_1]; decide) (by rw [c_1]; decide) (by rw [c_1]; decide) (by decide) ?_
          exact lw_text l hL C Rel fu t_text h0 hm ho h5 h6 h7 h8 h9 h10 h11 am a9 a10 a11 a12 y12 (6 * j) (402 + j) (178887 + 1500 * j) hi (by omega) (by omega) kk h1 h2 h3 h4 r5 r6 a3 a4 fo r1 r2 s1 s2 s3 s4 s5 s6 s9 s10 s11 s12 Lk ck M _ _ ls hR hP hD hS hl
        · skip
          by_cases c_2 : v = 2
          · refine lv_tableIn (tgt := 214) (off := 174) hx hb dL_law_40 (by rw [c_2]; decide) (by rw [c_2]; decide) (by rw [c_2]; decide) (by decide) ?_
            exact lw_fault l hL C Rel fu t_fault h0 hm ho h5 h6 h7 h8 h9 h10 h11 am a9 a10 a11 a12 y12 (6 * j) (402 + j) (178887 + 1500 * j) hi (by omega) (by omega) kk h1 h2 h3 h4 r5 r6 a3 a4 fo r1 r2 s1 s2 s3 s4 s5 s6 s9 s10 s11 s12 Lk ck M _ _ ls hR hP hD hS hl
          · skip
            by_cases c_3 : v = 3
            · refine lv_tableIn (tgt := 239) (off := 199) hx hb dL_law_40 (by rw [c_3]; decide) (by rw [c_3]; decide) (by rw [c_3]; decide) (by decide) ?_
              exact lw_begin l hL C Rel fu t_begin h0 hm ho h5 h6 h7 h8 h9 h10 h11 am a9 a10 a11 a12 y12 (6 * j) (402 + j) (178887 + 1500 * j) hi (by omega) (by omega) kk h1 h2 h3 h4 r5 r6 a3 a4 fo r1 r2 s1 s2 s3 s4 s5 s6 s9 s10 s11 s12 Lk ck M _ _ ls hR hP hD hS hl
            · skip
              by_cases c_4 : v = 4
              · refine lv_tableIn (tgt := 250) (off := 210) hx hb dL_law_40 (by rw [c_4]; decide) (by rw [c_4]; decide) (by rw [c_4]; decide) (by decide) ?_
                exact lw_cut l hL C Rel fu t_cut h0 hm ho h5 h6 h7 h8 h9 h10 h11 am a9 a10 a11 a12 y12 (6 * j) (402 + j) (178887 + 1500 * j) hi (by omega) (by omega) kk h1 h2 h3 h4 r5 r6 a3 a4 fo r1 r2 s1 s2 s3 s4 s5 s6 s9 s10 s11 s12 Lk ck M _ _ ls hR hP hD hS hl
              · skip
                by_cases c_5 : v = 5
                · refine lv_tableIn (tgt := 303) (off := 263) hx hb dL_law_40 (by rw [c_5]; decide) (by rw [c_5]; decide) (by rw [c_5]; decide) (by decide) ?_
                  exact lw_change l hL C Rel fu t_change h0 hm ho h5 h6 h7 h8 h9 h10 h11 am a9 a10 a11 a12 y12 (6 * j) (402 + j) (178887 + 1500 * j) hi (by omega) (by omega) kk h1 h2 h3 h4 r5 r6 a3 a4 fo r1 r2 s1 s2 s3 s4 s5 s6 s9 s10 s11 s12 Lk ck M _ _ ls hR hP hD hS hl
                · skip
                  by_cases c_6 : v = 6
                  · refine lv_tableIn (tgt := 352) (off := 312) hx hb dL_law_40 (by rw [c_6]; decide) (by rw [c_6]; decide) (by rw [c_6]; decide) (by decide) ?_
                    exact lw_heard l hL C Rel fu t_heard h0 hm ho h5 h6 h7 h8 h9 h10 h11 am a9 a10 a11 a12 y12 (6 * j) (402 + j) (178887 + 1500 * j) hi (by omega) (by omega) kk h1 h2 h3 h4 r5 r6 a3 a4 fo r1 r2 s1 s2 s3 s4 s5 s6 s9 s10 s11 s12 Lk ck M _ _ ls hR hP hD hS hl
                  · skip
                    by_cases c_7 : v = 7
                    · refine lv_tableIn (tgt := 377) (off := 337) hx hb dL_law_40 (by rw [c_7]; decide) (by rw [c_7]; decide) (by rw [c_7]; decide) (by decide) ?_
                      exact lw_hand l hL C Rel fu t_hand h0 hm ho h5 h6 h7 h8 h9 h10 h11 am a9 a10 a11 a12 y12 (6 * j) (402 + j) (178887 + 1500 * j) hi (by omega) (by omega) kk h1 h2 h3 h4 r5 r6 a3 a4 fo r1 r2 s1 s2 s3 s4 s5 s6 s9 s10 s11 s12 Lk ck M _ _ ls hR hP hD hS hl
                    · skip
                      by_cases c_8 : v = 8
                      · refine lv_tableIn (tgt := 430) (off := 390) hx hb dL_law_40 (by rw [c_8]; decide) (by rw [c_8]; decide) (by rw [c_8]; decide) (by decide) ?_
                        exact lw_title l hL C Rel fu t_title h0 hm ho h5 h6 h7 h8 h9 h10 h11 am a9 a10 a11 a12 y12 (6 * j) (402 + j) (178887 + 1500 * j) hi (by omega) (by omega) kk h1 h2 h3 h4 r5 r6 a3 a4 fo r1 r2 s1 s2 s3 s4 s5 s6 s9 s10 s11 s12 Lk ck M _ _ ls hR hP hD hS hl
                      · skip
                        by_cases c_9 : v = 9
                        · refine lv_tableIn (tgt := 498) (off := 458) hx hb dL_law_40 (by rw [c_9]; decide) (by rw [c_9]; decide) (by rw [c_9]; decide) (by decide) ?_
                          exact lw_pages l hL C Rel fu t_pages h0 hm ho h5 h6 h7 h8 h9 h10 h11 am a9 a10 a11 a12 y12 (6 * j) (402 + j) (178887 + 1500 * j) hi (by omega) (by omega) kk h1 h2 h3 h4 r5 r6 a3 a4 fo r1 r2 s1 s2 s3 s4 s5 s6 s9 s10 s11 s12 Lk ck M _ _ ls hR hP hD hS hl
                        · skip
                          by_cases c_10 : v = 10
                          · refine lv_tableIn (tgt := 566) (off := 526) hx hb dL_law_40 (by rw [c_10]; decide) (by rw [c_10]; decide) (by rw [c_10]; decide) (by decide) ?_
                            exact lw_price l hL C Rel fu t_price h0 hm ho h5 h6 h7 h8 h9 h10 h11 am a9 a10 a11 a12 y12 (6 * j) (402 + j) (178887 + 1500 * j) hi (by omega) (by omega) kk h1 h2 h3 h4 r5 r6 a3 a4 fo r1 r2 s1 s2 s3 s4 s5 s6 s9 s10 s11 s12 Lk ck M _ _ ls hR hP hD hS hl
                          · skip
                            by_cases c_11 : v = 11
                            · refine lv_tableIn (tgt := 634) (off := 594) hx hb dL_law_40 (by rw [c_11]; decide) (by rw [c_11]; decide) (by rw [c_11]; decide) (by decide) ?_
                              exact lw_sign l hL C Rel fu t_sign h0 hm ho h5 h6 h7 h8 h9 h10 h11 am a9 a10 a11 a12 y12 (6 * j) (402 + j) (178887 + 1500 * j) hi (by omega) (by omega) kk h1 h2 h3 h4 r5 r6 a3 a4 fo r1 r2 s1 s2 s3 s4 s5 s6 s9 s10 s11 s12 Lk ck M _ _ ls hR hP hD hS hl
                            · skip
                              by_cases c_12 : v = 12
                              · refine lv_tableIn (tgt := 707) (off := 667) hx hb dL_law_40 (by rw [c_12]; decide) (by rw [c_12]; decide) (by rw [c_12]; decide) (by decide) ?_
                                exact lw_shown l hL C Rel fu t_shown h0 hm ho h5 h6 h7 h8 h9 h10 h11 am a9 a10 a11 a12 y12 (6 * j) (402 + j) (178887 + 1500 * j) hi (by omega) (by omega) kk h1 h2 h3 h4 r5 r6 a3 a4 fo r1 r2 s1 s2 s3 s4 s5 s6 s9 s10 s11 s12 Lk ck M _ _ ls hR hP hD hS hl
                              · skip
                                by_cases c_13 : v = 13
                                · refine lv_tableIn (tgt := 732) (off := 692) hx hb dL_law_40 (by rw [c_13]; decide) (by rw [c_13]; decide) (by rw [c_13]; decide) (by decide) ?_
                                  exact lw_now l hL C Rel fu t_now h0 hm ho h5 h6 h7 h8 h9 h10 h11 am a9 a10 a11 a12 y12 (6 * j) (402 + j) (178887 + 1500 * j) hi (by omega) (by omega) kk h1 h2 h3 h4 r5 r6 a3 a4 fo r1 r2 s1 s2 s3 s4 s5 s6 s9 s10 s11 s12 Lk ck M _ _ ls hR hP hD hS hl
                                · skip
                                  by_cases c_14 : v = 14
                                  · refine lv_tableIn (tgt := 781) (off := 741) hx hb dL_law_40 (by rw [c_14]; decide) (by rw [c_14]; decide) (by rw [c_14]; decide) (by decide) ?_
                                    exact lw_count l hL C Rel fu t_count h0 hm ho h5 h6 h7 h8 h9 h10 h11 am a9 a10 a11 a12 y12 (6 * j) (402 + j) (178887 + 1500 * j) hi (by omega) (by omega) kk h1 h2 h3 h4 r5 r6 a3 a4 fo r1 r2 s1 s2 s3 s4 s5 s6 s9 s10 s11 s12 Lk ck M _ _ ls hR hP hD hS hl
                                  · skip
                                    have e_0 : ¬ v.toInt = 0 := fun h => c_0 (Int32.toInt_inj.mp (h.trans (by decide)))
                                    have e_1 : ¬ v.toInt = 1 := fun h => c_1 (Int32.toInt_inj.mp (h.trans (by decide)))
                                    have e_2 : ¬ v.toInt = 2 := fun h => c_2 (Int32.toInt_inj.mp (h.trans (by decide)))
                                    have e_3 : ¬ v.toInt = 3 := fun h => c_3 (Int32.toInt_inj.mp (h.trans (by decide)))
                                    have e_4 : ¬ v.toInt = 4 := fun h => c_4 (Int32.toInt_inj.mp (h.trans (by decide)))
                                    have e_5 : ¬ v.toInt = 5 := fun h => c_5 (Int32.toInt_inj.mp (h.trans (by decide)))
                                    have e_6 : ¬ v.toInt = 6 := fun h => c_6 (Int32.toInt_inj.mp (h.trans (by decide)))
                                    have e_7 : ¬ v.toInt = 7 := fun h => c_7 (Int32.toInt_inj.mp (h.trans (by decide)))
                                    have e_8 : ¬ v.toInt = 8 := fun h => c_8 (Int32.toInt_inj.mp (h.trans (by decide)))
                                    have e_9 : ¬ v.toInt = 9 := fun h => c_9 (Int32.toInt_inj.mp (h.trans (by decide)))
                                    have e_10 : ¬ v.toInt = 10 := fun h => c_10 (Int32.toInt_inj.mp (h.trans (by decide)))
                                    have e_11 : ¬ v.toInt = 11 := fun h => c_11 (Int32.toInt_inj.mp (h.trans (by decide)))
                                    have e_12 : ¬ v.toInt = 12 := fun h => c_12 (Int32.toInt_inj.mp (h.trans (by decide)))
                                    have e_13 : ¬ v.toInt = 13 := fun h => c_13 (Int32.toInt_inj.mp (h.trans (by decide)))
                                    have e_14 : ¬ v.toInt = 14 := fun h => c_14 (Int32.toInt_inj.mp (h.trans (by decide)))
                                    refine lv_tableOut (tgt := 806) hx hb dL_law_40 (by omega) (by decide) ?_
                                    refine W.widen (k := 402 + j + 1) (n := 178887 + 1500 * j + 1500) (by omega) (by omega) ?_
                                    exact kk h1 h2 h3 h4 r5 r6 a3 a4 fo r1 r2 s1 s2 s3 s4 s5 s6 s9 s10 s11 s12 Lk ck M _ _ ls hR hP hD hS hl
