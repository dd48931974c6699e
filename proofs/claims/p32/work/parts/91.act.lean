/-! the law's act, case by case -/
def lowV (x n : Int32) : Int32 := (x &&& (nI 2147483647)) - (x &&& (nI 2147483647)) / n * n
theorem low_ok {x n : Int32} (hn : ¬ n = 0) {Q : Int32 → Prop} (h : Q (lowV x n)) : wp_L_low x n Q := by
  unfold wp_L_low
  exact ⟨hn, h⟩
set_option maxHeartbeats 4000000 in
theorem a_act {b : Nat} {N SN : Nat → Nat} (hK : K2 b N) (hKS : K2 b SN) (v w : Int32) : ∃ r N2, AR b N r N2 ∧ ∀ (V B : SV) (s1 : Int32) (O1 n1 z1 h1 t1 : Nat → Int32) (s2 : Int32) (O2 n2 z2 h2 t2 : Nat → Int32) (hV : Nat → SV) (m : Nat), RS V N → RS (hV 4) SN → m ≤ 4 → ∀ Q : Int32 → Int32 → (Nat → Int32) → (Nat → Int32) → (Nat → Int32) → (Nat → Int32) → (Nat → Int32) → Int32 → (Nat → Int32) → (Nat → Int32) → (Nat → Int32) → Int32 → (Nat → Int32) → (Nat → Int32) → (Nat → Int32) → (Nat → Int32) → (Nat → Int32) → (Nat → Int32) → Int32 → (Nat → Int32) → (Nat → Int32) → (Nat → Int32) → (Nat → Int32) → (Nat → Int32) → Int32 → (Nat → Int32) → (Nat → Int32) → (Nat → Int32) → Int32 → (Nat → Int32) → (Nat → Int32) → (Nat → Int32) → (Nat → Int32) → (Nat → Int32) → (Nat → Int32) → Int32 → (Nat → Int32) → (Nat → Int32) → (Nat → Int32) → (Nat → Int32) → (Nat → Int32) → Int32 → (Nat → Int32) → (Nat → Int32) → (Nat → Int32) → (Nat → Int32) → (Nat → Int32) → (Nat → Nat → Nat → Int32) → Int32 → Prop, (∀ {a0 a1 a2 a3 a4 a5 a6 a7 a8 a9 a10 a11 a12 a13 a14 a15 a16 b0 b1 b2 b3 b4 b5 b6 b7 b8 b9 b10 b11 b12 b13 b14 b15 b16 d0 d1 d2 d3 d4 d5 e0 e1 e2 e3 e4 e5 hV2 hs2}, AO N2 r V (sv a0 a1 a2 a3 a4 a5 a6 a7 a8 a9 a10 a11 a12 a13 a14 a15 a16) hV hV2 m hs2 → Q r a0 a1 a2 a3 a4 a5 a6 a7 a8 a9 a10 a11 a12 a13 a14 a15 a16 b0 b1 b2 b3 b4 b5 b6 b7 b8 b9 b10 b11 b12 b13 b14 b15 b16 d0 d1 d2 d3 d4 d5 e0 e1 e2 e3 e4 e5 hV2 hs2) → wp_L_act (V 14 0) (V 0) (V 1) (V 2) (V 3) (V 4) (V 14 1) (V 5) (V 6) (V 7) (V 14 2) (V 8) (V 9) (V 10) (V 11) (V 12) (V 13) (B 14 0) (B 0) (B 1) (B 2) (B 3) (B 4) (B 14 1) (B 5) (B 6) (B 7) (B 14 2) (B 8) (B 9) (B 10) (B 11) (B 12) (B 13) s1 O1 n1 z1 h1 t1 s2 O2 n2 z2 h2 t2 hV (nI m) (nI 1) v w Q := by
  by_cases c0 : (v &&& (nI 15)) = (nI 0)
  · skip
    obtain ⟨r, N2, g1, g2⟩ := a_enlist hK (lowV (v >>> ((nI 4) &&& 31)) (nI 11)) (lowV (w >>> ((nI 5) &&& 31)) (nI 17))
    refine ⟨r, N2, g1, fun V B s1 O1 n1 z1 h1 t1 s2 O2 n2 z2 h2 t2 hV m hS hS4 hm4 Q hQ => ?_⟩
    unfold wp_L_act
    refine low_ok (by decide) (low_ok (by decide) (ifP c0 ?_))
    exact g2 V B hV m hS hm4 _ (fun h => hQ h)
  · skip
    by_cases c1 : (v &&& (nI 15)) = (nI 1)
    · skip
      obtain ⟨r, N2, g1, g2⟩ := a_enlist hK (lowV (v >>> ((nI 4) &&& 31)) (nI 11)) (lowV (w >>> ((nI 5) &&& 31)) (nI 17))
      refine ⟨r, N2, g1, fun V B s1 O1 n1 z1 h1 t1 s2 O2 n2 z2 h2 t2 hV m hS hS4 hm4 Q hQ => ?_⟩
      unfold wp_L_act
      refine low_ok (by decide) (low_ok (by decide) (ifN c0 (ifP c1 ?_)))
      exact g2 V B hV m hS hm4 _ (fun h => hQ h)
    · skip
      by_cases c2 : (v &&& (nI 15)) = (nI 2)
      · skip
        obtain ⟨r, N2, g1, g2⟩ := a_enlist hK (lowV (v >>> ((nI 4) &&& 31)) (nI 11)) (lowV (w >>> ((nI 5) &&& 31)) (nI 17))
        refine ⟨r, N2, g1, fun V B s1 O1 n1 z1 h1 t1 s2 O2 n2 z2 h2 t2 hV m hS hS4 hm4 Q hQ => ?_⟩
        unfold wp_L_act
        refine low_ok (by decide) (low_ok (by decide) (ifN c0 (ifN c1 (ifP c2 ?_))))
        exact g2 V B hV m hS hm4 _ (fun h => hQ h)
      · skip
        by_cases c3 : (v &&& (nI 15)) = (nI 3)
        · skip
          obtain ⟨r, N2, g1, g2⟩ := a_enlist hK (lowV (v >>> ((nI 4) &&& 31)) (nI 11)) (lowV (w >>> ((nI 5) &&& 31)) (nI 17))
          refine ⟨r, N2, g1, fun V B s1 O1 n1 z1 h1 t1 s2 O2 n2 z2 h2 t2 hV m hS hS4 hm4 Q hQ => ?_⟩
          unfold wp_L_act
          refine low_ok (by decide) (low_ok (by decide) (ifN c0 (ifN c1 (ifN c2 (ifP c3 ?_)))))
          exact g2 V B hV m hS hm4 _ (fun h => hQ h)
        · skip
          by_cases c4 : (v &&& (nI 15)) = (nI 4)
          · skip
            obtain ⟨r, N2, g1, g2⟩ := a_strike hK (lowV (v >>> ((nI 4) &&& 31)) (nI 11)) (lowV (w >>> ((nI 5) &&& 31)) (nI 17))
            refine ⟨r, N2, g1, fun V B s1 O1 n1 z1 h1 t1 s2 O2 n2 z2 h2 t2 hV m hS hS4 hm4 Q hQ => ?_⟩
            unfold wp_L_act
            refine low_ok (by decide) (low_ok (by decide) (ifN c0 (ifN c1 (ifN c2 (ifN c3 (ifP c4 ?_))))))
            exact g2 V B hV m hS hm4 _ (fun h => hQ h)
          · skip
            by_cases c5 : (v &&& (nI 15)) = (nI 5)
            · skip
              obtain ⟨r, N2, g1, g2⟩ := a_setNeed hK (lowV (v >>> ((nI 4) &&& 31)) (nI 11)) (lowV w (nI 5))
              refine ⟨r, N2, g1, fun V B s1 O1 n1 z1 h1 t1 s2 O2 n2 z2 h2 t2 hV m hS hS4 hm4 Q hQ => ?_⟩
              unfold wp_L_act
              refine low_ok (by decide) (low_ok (by decide) (ifN c0 (ifN c1 (ifN c2 (ifN c3 (ifN c4 (ifP c5 ?_)))))))
              exact low_ok (by decide) (g2 V hV m hS hm4 _ (fun h => hQ h))
            · skip
              by_cases c6 : (v &&& (nI 15)) = (nI 6)
              · skip
                obtain ⟨r, N2, g1, g2⟩ := a_train hK (lowV (w >>> ((nI 5) &&& 31)) (nI 17)) (lowV (w >>> ((nI 10) &&& 31)) (nI 402))
                refine ⟨r, N2, g1, fun V B s1 O1 n1 z1 h1 t1 s2 O2 n2 z2 h2 t2 hV m hS hS4 hm4 Q hQ => ?_⟩
                unfold wp_L_act
                refine low_ok (by decide) (low_ok (by decide) (ifN c0 (ifN c1 (ifN c2 (ifN c3 (ifN c4 (ifN c5 (ifP c6 ?_))))))))
                exact low_ok (by decide) (g2 V hV m hS hm4 _ (fun h => hQ h))
              · skip
                by_cases c7 : (v &&& (nI 15)) = (nI 7)
                · skip
                  obtain ⟨r, N2, g1, g2⟩ := a_set hK (lowV w (nI 4)) (lowV (w >>> ((nI 2) &&& 31)) (nI 4))
                  refine ⟨r, N2, g1, fun V B s1 O1 n1 z1 h1 t1 s2 O2 n2 z2 h2 t2 hV m hS hS4 hm4 Q hQ => ?_⟩
                  unfold wp_L_act
                  refine low_ok (by decide) (low_ok (by decide) (ifN c0 (ifN c1 (ifN c2 (ifN c3 (ifN c4 (ifN c5 (ifN c6 (ifP c7 ?_)))))))))
                  unfold wb_L_act_140
                  exact low_ok (by decide) (low_ok (by decide) (g2 V hV m hS hm4 _ (fun h => hQ h)))
                · skip
                  by_cases c8 : (v &&& (nI 15)) = (nI 8)
                  · skip
                    obtain ⟨r, N2, g1, g2⟩ := a_set hK (lowV w (nI 4)) (lowV (w >>> ((nI 2) &&& 31)) (nI 4))
                    refine ⟨r, N2, g1, fun V B s1 O1 n1 z1 h1 t1 s2 O2 n2 z2 h2 t2 hV m hS hS4 hm4 Q hQ => ?_⟩
                    unfold wp_L_act
                    refine low_ok (by decide) (low_ok (by decide) (ifN c0 (ifN c1 (ifN c2 (ifN c3 (ifN c4 (ifN c5 (ifN c6 (ifN c7 (ifP c8 ?_))))))))))
                    unfold wb_L_act_140
                    exact low_ok (by decide) (low_ok (by decide) (g2 V hV m hS hm4 _ (fun h => hQ h)))
                  · skip
                    by_cases c9 : (v &&& (nI 15)) = (nI 9)
                    · skip
                      by_cases cb : ((w >>> ((nI 20) &&& 31)) &&& (nI 1)) = 0
                      · skip
                        obtain ⟨r, N2, g1, g2⟩ := a_leave hK (lowV (w >>> ((nI 5) &&& 31)) (nI 17)) (lowV w (nI 20)) ((lowV w (nI 20) + lowV (w >>> ((nI 10) &&& 31)) (nI 8)) - (nI 1))
                        refine ⟨r, N2, g1, fun V B s1 O1 n1 z1 h1 t1 s2 O2 n2 z2 h2 t2 hV m hS hS4 hm4 Q hQ => ?_⟩
                        unfold wp_L_act
                        refine low_ok (by decide) (low_ok (by decide) (ifN c0 (ifN c1 (ifN c2 (ifN c3 (ifN c4 (ifN c5 (ifN c6 (ifN c7 (ifN c8 (ifP c9 ?_)))))))))))
                        unfold wb_L_act_157
                        refine ifP' cb ?_
                        unfold wb_L_act_175
                        exact low_ok (by decide) (low_ok (by decide) (g2 V B _ _ _ _ _ _ _ _ _ _ _ _ hV m hS hm4 _ (fun h => hQ h)))
                      · skip
                        obtain ⟨r, N2, g1, g2⟩ := a_leave hK (lowV (w >>> ((nI 5) &&& 31)) (nI 17)) (lowV w (nI 402)) ((lowV w (nI 402) + lowV (w >>> ((nI 10) &&& 31)) (nI 8)) - (nI 1))
                        refine ⟨r, N2, g1, fun V B s1 O1 n1 z1 h1 t1 s2 O2 n2 z2 h2 t2 hV m hS hS4 hm4 Q hQ => ?_⟩
                        unfold wp_L_act
                        refine low_ok (by decide) (low_ok (by decide) (ifN c0 (ifN c1 (ifN c2 (ifN c3 (ifN c4 (ifN c5 (ifN c6 (ifN c7 (ifN c8 (ifP c9 ?_)))))))))))
                        unfold wb_L_act_157
                        refine ifN' cb ?_
                        unfold wb_L_act_175
                        exact low_ok (by decide) (low_ok (by decide) (g2 V B _ _ _ _ _ _ _ _ _ _ _ _ hV m hS hm4 _ (fun h => hQ h)))
                    · skip
                      by_cases c10 : (v &&& (nI 15)) = (nI 10)
                      · skip
                        by_cases cb : ((w >>> ((nI 20) &&& 31)) &&& (nI 1)) = 0
                        · skip
                          obtain ⟨r, N2, g1, g2⟩ := a_leave hK (lowV (w >>> ((nI 5) &&& 31)) (nI 17)) (lowV w (nI 20)) ((lowV w (nI 20) + lowV (w >>> ((nI 10) &&& 31)) (nI 8)) - (nI 1))
                          refine ⟨r, N2, g1, fun V B s1 O1 n1 z1 h1 t1 s2 O2 n2 z2 h2 t2 hV m hS hS4 hm4 Q hQ => ?_⟩
                          unfold wp_L_act
                          refine low_ok (by decide) (low_ok (by decide) (ifN c0 (ifN c1 (ifN c2 (ifN c3 (ifN c4 (ifN c5 (ifN c6 (ifN c7 (ifN c8 (ifN c9 (ifP c10 ?_))))))))))))
                          unfold wb_L_act_157
                          refine ifP' cb ?_
                          unfold wb_L_act_175
                          exact low_ok (by decide) (low_ok (by decide) (g2 V B _ _ _ _ _ _ _ _ _ _ _ _ hV m hS hm4 _ (fun h => hQ h)))
                        · skip
                          obtain ⟨r, N2, g1, g2⟩ := a_leave hK (lowV (w >>> ((nI 5) &&& 31)) (nI 17)) (lowV w (nI 402)) ((lowV w (nI 402) + lowV (w >>> ((nI 10) &&& 31)) (nI 8)) - (nI 1))
                          refine ⟨r, N2, g1, fun V B s1 O1 n1 z1 h1 t1 s2 O2 n2 z2 h2 t2 hV m hS hS4 hm4 Q hQ => ?_⟩
                          unfold wp_L_act
                          refine low_ok (by decide) (low_ok (by decide) (ifN c0 (ifN c1 (ifN c2 (ifN c3 (ifN c4 (ifN c5 (ifN c6 (ifN c7 (ifN c8 (ifN c9 (ifP c10 ?_))))))))))))
                          unfold wb_L_act_157
                          refine ifN' cb ?_
                          unfold wb_L_act_175
                          exact low_ok (by decide) (low_ok (by decide) (g2 V B _ _ _ _ _ _ _ _ _ _ _ _ hV m hS hm4 _ (fun h => hQ h)))
                      · skip
                        by_cases c11 : (v &&& (nI 15)) = (nI 11)
                        · skip
                          by_cases cb : ((w >>> ((nI 20) &&& 31)) &&& (nI 1)) = 0
                          · skip
                            obtain ⟨r, N2, g1, g2⟩ := a_leave hK (lowV (w >>> ((nI 5) &&& 31)) (nI 17)) (lowV w (nI 20)) ((lowV w (nI 20) + lowV (w >>> ((nI 10) &&& 31)) (nI 8)) - (nI 1))
                            refine ⟨r, N2, g1, fun V B s1 O1 n1 z1 h1 t1 s2 O2 n2 z2 h2 t2 hV m hS hS4 hm4 Q hQ => ?_⟩
                            unfold wp_L_act
                            refine low_ok (by decide) (low_ok (by decide) (ifN c0 (ifN c1 (ifN c2 (ifN c3 (ifN c4 (ifN c5 (ifN c6 (ifN c7 (ifN c8 (ifN c9 (ifN c10 (ifP c11 ?_)))))))))))))
                            unfold wb_L_act_157
                            refine ifP' cb ?_
                            unfold wb_L_act_175
                            exact low_ok (by decide) (low_ok (by decide) (g2 V B _ _ _ _ _ _ _ _ _ _ _ _ hV m hS hm4 _ (fun h => hQ h)))
                          · skip
                            obtain ⟨r, N2, g1, g2⟩ := a_leave hK (lowV (w >>> ((nI 5) &&& 31)) (nI 17)) (lowV w (nI 402)) ((lowV w (nI 402) + lowV (w >>> ((nI 10) &&& 31)) (nI 8)) - (nI 1))
                            refine ⟨r, N2, g1, fun V B s1 O1 n1 z1 h1 t1 s2 O2 n2 z2 h2 t2 hV m hS hS4 hm4 Q hQ => ?_⟩
                            unfold wp_L_act
                            refine low_ok (by decide) (low_ok (by decide) (ifN c0 (ifN c1 (ifN c2 (ifN c3 (ifN c4 (ifN c5 (ifN c6 (ifN c7 (ifN c8 (ifN c9 (ifN c10 (ifP c11 ?_)))))))))))))
                            unfold wb_L_act_157
                            refine ifN' cb ?_
                            unfold wb_L_act_175
                            exact low_ok (by decide) (low_ok (by decide) (g2 V B _ _ _ _ _ _ _ _ _ _ _ _ hV m hS hm4 _ (fun h => hQ h)))
                        · skip
                          by_cases c12 : (v &&& (nI 15)) = (nI 12)
                          · skip
                            by_cases cb : (w &&& (nI 3)) = 0
                            · skip
                              obtain ⟨r, N2, g1, g2⟩ := a_restore (N := N) hKS
                              refine ⟨r, N2, g1, fun V B s1 O1 n1 z1 h1 t1 s2 O2 n2 z2 h2 t2 hV m hS hS4 hm4 Q hQ => ?_⟩
                              unfold wp_L_act
                              refine low_ok (by decide) (low_ok (by decide) (ifN c0 (ifN c1 (ifN c2 (ifN c3 (ifN c4 (ifN c5 (ifN c6 (ifN c7 (ifN c8 (ifN c9 (ifN c10 (ifN c11 (ifP c12 ?_))))))))))))))
                              refine ifP' cb ?_
                              exact g2 V B hV m hS hS4 hm4 _ (fun h => hQ h)
                            · skip
                              obtain ⟨r, N2, g1, g2⟩ := a_takeBack hK (lowV (w >>> ((nI 5) &&& 31)) (nI 17)) (lowV w (nI 30))
                              refine ⟨r, N2, g1, fun V B s1 O1 n1 z1 h1 t1 s2 O2 n2 z2 h2 t2 hV m hS hS4 hm4 Q hQ => ?_⟩
                              unfold wp_L_act
                              refine low_ok (by decide) (low_ok (by decide) (ifN c0 (ifN c1 (ifN c2 (ifN c3 (ifN c4 (ifN c5 (ifN c6 (ifN c7 (ifN c8 (ifN c9 (ifN c10 (ifN c11 (ifP c12 ?_))))))))))))))
                              refine ifN' cb ?_
                              exact low_ok (by decide) (g2 V hV m hS hm4 _ (fun h => hQ h))
                          · skip
                            by_cases c13 : (v &&& (nI 15)) = (nI 13)
                            · skip
                              obtain ⟨r, N2, g1, g2⟩ := a_drill hK (lowV (v >>> ((nI 4) &&& 31)) (nI 11)) (lowV w (nI 62))
                              refine ⟨r, N2, g1, fun V B s1 O1 n1 z1 h1 t1 s2 O2 n2 z2 h2 t2 hV m hS hS4 hm4 Q hQ => ?_⟩
                              unfold wp_L_act
                              refine low_ok (by decide) (low_ok (by decide) (ifN c0 (ifN c1 (ifN c2 (ifN c3 (ifN c4 (ifN c5 (ifN c6 (ifN c7 (ifN c8 (ifN c9 (ifN c10 (ifN c11 (ifN c12 (ifP c13 ?_)))))))))))))))
                              exact low_ok (by decide) (g2 V B _ _ _ _ _ _ hV m hS hm4 _ (fun h => hQ h))
                            · skip
                              by_cases c14 : (v &&& (nI 15)) = (nI 14)
                              · skip
                                obtain ⟨r, N2, g1, g2⟩ := a_drill hK (lowV (v >>> ((nI 4) &&& 31)) (nI 11)) (lowV w (nI 62))
                                refine ⟨r, N2, g1, fun V B s1 O1 n1 z1 h1 t1 s2 O2 n2 z2 h2 t2 hV m hS hS4 hm4 Q hQ => ?_⟩
                                unfold wp_L_act
                                refine low_ok (by decide) (low_ok (by decide) (ifN c0 (ifN c1 (ifN c2 (ifN c3 (ifN c4 (ifN c5 (ifN c6 (ifN c7 (ifN c8 (ifN c9 (ifN c10 (ifN c11 (ifN c12 (ifN c13 (ifP c14 ?_))))))))))))))))
                                exact low_ok (by decide) (g2 V B _ _ _ _ _ _ hV m hS hm4 _ (fun h => hQ h))
                              · skip
                                by_cases cb : ((w >>> ((nI 20) &&& 31)) &&& (nI 1)) = 0
                                · skip
                                  obtain ⟨r, N2, g1, g2⟩ := a_pass hK (lowV w (nI 9))
                                  refine ⟨r, N2, g1, fun V B s1 O1 n1 z1 h1 t1 s2 O2 n2 z2 h2 t2 hV m hS hS4 hm4 Q hQ => ?_⟩
                                  unfold wp_L_act
                                  refine low_ok (by decide) (low_ok (by decide) (ifN c0 (ifN c1 (ifN c2 (ifN c3 (ifN c4 (ifN c5 (ifN c6 (ifN c7 (ifN c8 (ifN c9 (ifN c10 (ifN c11 (ifN c12 (ifN c13 (ifN c14 ?_))))))))))))))))
                                  refine ifP' cb ?_
                                  exact low_ok (by decide) (g2 V B _ _ _ _ _ _ hV m hS hm4 _ (fun h => hQ h))
                                · skip
                                  obtain ⟨r, N2, g1, g2⟩ := a_pass hK (lowV w (nI 101))
                                  refine ⟨r, N2, g1, fun V B s1 O1 n1 z1 h1 t1 s2 O2 n2 z2 h2 t2 hV m hS hS4 hm4 Q hQ => ?_⟩
                                  unfold wp_L_act
                                  refine low_ok (by decide) (low_ok (by decide) (ifN c0 (ifN c1 (ifN c2 (ifN c3 (ifN c4 (ifN c5 (ifN c6 (ifN c7 (ifN c8 (ifN c9 (ifN c10 (ifN c11 (ifN c12 (ifN c13 (ifN c14 ?_))))))))))))))))
                                  refine ifN' cb ?_
                                  exact low_ok (by decide) (g2 V B _ _ _ _ _ _ hV m hS hm4 _ (fun h => hQ h))
