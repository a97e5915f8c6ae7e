/-! The law's cases -/
section LK
variable {X : gX} {a : Nat → Nat} {c : Nat → va_E} {t : QT} {k : QC} {o : QO} {l : QL} {p : QP} {d : QD} {b : QB} {r : List Nat} {n i C S : Nat} {u : Nat → Int64} {th : Int32}
theorem k_insert (hX : X.l.stackTraces = false) (h : cls X a c t k o l p d b r) (hm : mdl X a c th t k o l p d b r) (ok : okQ n t k o l p d b r) (hn : n < 600) (hO : c 94 = aJ X 1 u) (hi : i + 5 ≤ X.sl) (hsl : X.sl < 2 ^ 31) (hC : 4 ≤ C) (hS : 24 ≤ S) (kk : ∀ w, lwI X a w (n + 1) → GW X a m_L_law 11 388 (C - 4) (S - 24) 1127 [(0, .ref X.sb), (1, .ref (a 0)), (2, .ref (a 79)), (3, .ref (a 94)), (4, .int (nI i))] [] w PL) : GW X a m_L_law 11 388 C S 148 [(0, .ref X.sb), (1, .ref (a 0)), (2, .ref (a 79)), (3, .ref (a 94)), (4, .int (nI i))] [] c PL := by
  refine w_aload_n d_L_law_148 rfl ?_
  refine w_aload_n d_L_law_149 rfl ?_
  refine w_iload d_L_law_150 rfl ?_
  refine w_iconst 1 d_L_law_152 (by decide) ?_
  refine w_iadd d_L_law_153 ?_
  refine w_sald d_L_law_154 (nI_add i 1) (by omega) hsl ?_
  refine w_aload_n d_L_law_155 rfl ?_
  refine w_iload d_L_law_156 rfl ?_
  refine w_iconst 2 d_L_law_158 (by decide) ?_
  refine w_iadd d_L_law_159 ?_
  refine w_sald d_L_law_160 (nI_add i 2) (by omega) hsl ?_
  refine w_aload_n d_L_law_161 rfl ?_
  refine w_iload d_L_law_162 rfl ?_
  refine w_iconst 3 d_L_law_164 (by decide) ?_
  refine w_iadd d_L_law_165 ?_
  refine w_sald d_L_law_166 (nI_add i 3) (by omega) hsl ?_
  refine w_aload_n d_L_law_167 rfl ?_
  refine w_sI [_, _, _, _, _] c_L_85 d_L_law_168 (l_insert hX h ok hO) (fun v w1 hw1 => ?_) rfl rfl (gq rfl) (gq rfl) (gq rfl) (gq rfl) (by omega) (by omega)
  obtain ⟨hD, hs⟩ := hw1
  have hm := hm.keepL hs
  obtain ⟨sc, hMM⟩ := hm.M
  refine w_istore d_L_law_171 (by decide) ?_
  refine w_aload_n d_L_law_173 rfl ?_
  refine w_aload_n d_L_law_174 rfl ?_
  refine w_iload d_L_law_175 rfl ?_
  refine w_iconst 1 d_L_law_177 (by decide) ?_
  refine w_iadd d_L_law_178 ?_
  refine w_sald d_L_law_179 (nI_add i 1) (by omega) hsl ?_
  refine w_aload_n d_L_law_180 rfl ?_
  refine w_iload d_L_law_181 rfl ?_
  refine w_iconst 2 d_L_law_183 (by decide) ?_
  refine w_iadd d_L_law_184 ?_
  refine w_sald d_L_law_185 (nI_add i 2) (by omega) hsl ?_
  refine w_aload_n d_L_law_186 rfl ?_
  refine w_iload d_L_law_187 rfl ?_
  refine w_iconst 3 d_L_law_189 (by decide) ?_
  refine w_iadd d_L_law_190 ?_
  refine w_sald d_L_law_191 (nI_add i 3) (by omega) hsl ?_
  refine w_vI [_, _, _] c_L_88 d_L_law_192 rfl hMM (by decide) (m_insert hm ok) (fun v2 w2 hw2 => ?_) rfl rfl (gq rfl) (gq rfl) (gq rfl) (gq rfl) (by omega) (by omega)
  obtain ⟨hE, hs2⟩ := hw2
  obtain ⟨t', k', o', l', p', d', b', r', u', gc, gm, gok, gO, gQ⟩ : agr X a w2 n v (fun q => q = Int32.toInt64 v2) := by
    have ht := ok.1
    have hr := ok.2.2.2.2.2.2.2.1.1
    have hd := ok.2.2.2.2.2.1.1
    rcases hD with ⟨rfl, h1, h2, ⟨u', e1, e2⟩, gc⟩ | ⟨rfl, h1, e1, gc⟩ | ⟨rfl, h1, h2, e1, gc⟩
    · rcases hE with ⟨g1, g2, rfl, gm⟩ | ⟨g1, gm⟩ | ⟨g1, g2, gm⟩
      · exact ag hs2 gc gm (ok_ins ok hn h2 _ _ _) e1 (fun _ => e2)
      · exact absurd h1 g1
      · exact absurd g2 (by omega)
    · rcases hE with ⟨g1, g2, -, gm⟩ | ⟨g1, gm⟩ | ⟨g1, g2, gm⟩
      · exact absurd g1 h1
      · exact ag hs2 gc gm (ok_mono ok hn) e1 (fun z => absurd z (by decide))
      · exact absurd g1 h1
    · rcases hE with ⟨g1, g2, -, gm⟩ | ⟨g1, gm⟩ | ⟨g1, g2, gm⟩
      · exact absurd h2 (by omega)
      · exact absurd h1 g1
      · exact ag hs2 gc gm (ok_mono ok hn) e1 (fun z => absurd z (by decide))
  obtain ⟨sc', hM2⟩ := gm.M
  refine w_istore d_L_law_195 (by decide) ?_
  refine w_aload_n d_L_law_197 rfl ?_
  refine w_vI [] c_L_89 d_L_law_198 rfl hM2 (by decide) (m_thrown hM2) (fun x w hw => ?_) rfl rfl (gq rfl) (gq rfl) (gq rfl) (gq rfl) (by omega) (by omega)
  obtain ⟨rfl, rfl⟩ := hw
  refine w_iload d_L_law_201 rfl ?_
  refine w_icmp_eq 208 d_L_law_203 (by decide) (fun _ => ?_) (fun hn => absurd (rfl) hn)
  refine w_iload d_L_law_208 rfl ?_
  refine w_if_ne 225 d_L_law_210 (by decide) (fun hv => ?_) (fun hv => ?_)
  · -- taken
    refine w_goto 1127 d_L_law_225 (by decide) ?_
    exact w_sel [0, 1, 2, 3, 4] rfl (w_less (Nat.le_refl _) (Nat.le_refl _) (by omega) (by omega) (kk _ ⟨_, _, _, _, _, _, _, _, _, _, gc, gm, gok, gO⟩))
  · -- not taken
    refine w_aload_n d_L_law_213 rfl ?_
    refine w_iconst 0 d_L_law_214 (by decide) ?_
    refine w_lald d_L_law_215 gO (show (0 : Int32) = nI 0 from rfl) (by decide : 0 < 1) (by decide) (by decide) ?_
    refine w_iload d_L_law_216 rfl ?_
    refine w_i2l d_L_law_218 ?_
    refine w_lcmp d_L_law_219 ?_
    refine w_if_eq 225 d_L_law_220 (by decide) (fun _ => ?_) (fun hn => absurd (((lcmp_eq _ _).mpr (gQ hv))) hn)
    refine w_goto 1127 d_L_law_225 (by decide) ?_
    exact w_sel [0, 1, 2, 3, 4] rfl (w_less (Nat.le_refl _) (Nat.le_refl _) (by omega) (by omega) (kk _ ⟨_, _, _, _, _, _, _, _, _, _, gc, gm, gok, gO⟩))
theorem k_delete (hX : X.l.stackTraces = false) (h : cls X a c t k o l p d b r) (hm : mdl X a c th t k o l p d b r) (ok : okQ n t k o l p d b r) (hn : n < 600) (hO : c 94 = aJ X 1 u) (hi : i + 5 ≤ X.sl) (hsl : X.sl < 2 ^ 31) (hC : 4 ≤ C) (hS : 24 ≤ S) (kk : ∀ w, lwI X a w (n + 1) → GW X a m_L_law 11 388 (C - 4) (S - 24) 1127 [(0, .ref X.sb), (1, .ref (a 0)), (2, .ref (a 79)), (3, .ref (a 94)), (4, .int (nI i))] [] w PL) : GW X a m_L_law 11 388 C S 228 [(0, .ref X.sb), (1, .ref (a 0)), (2, .ref (a 79)), (3, .ref (a 94)), (4, .int (nI i))] [] c PL := by
  refine w_aload_n d_L_law_228 rfl ?_
  refine w_aload_n d_L_law_229 rfl ?_
  refine w_iload d_L_law_230 rfl ?_
  refine w_iconst 1 d_L_law_232 (by decide) ?_
  refine w_iadd d_L_law_233 ?_
  refine w_sald d_L_law_234 (nI_add i 1) (by omega) hsl ?_
  refine w_sI [_, _] c_L_93 d_L_law_235 (l_delete hX h ok) (fun v w1 hw1 => ?_) rfl rfl (gq rfl) (gq rfl) (gq rfl) (gq rfl) (by omega) (by omega)
  obtain ⟨hD, hs⟩ := hw1
  have e1 := (hs 94 (by decide)).trans hO
  have hm := hm.keepL (sameL_a hs)
  obtain ⟨sc, hMM⟩ := hm.M
  refine w_istore d_L_law_238 (by decide) ?_
  refine w_aload_n d_L_law_240 rfl ?_
  refine w_aload_n d_L_law_241 rfl ?_
  refine w_iload d_L_law_242 rfl ?_
  refine w_iconst 1 d_L_law_244 (by decide) ?_
  refine w_iadd d_L_law_245 ?_
  refine w_sald d_L_law_246 (nI_add i 1) (by omega) hsl ?_
  refine w_vV [_] c_L_96 d_L_law_247 rfl hMM (by decide) (m_delete hm ok) (fun w2 hw2 => ?_) rfl rfl (gq rfl) (gq rfl) (gq rfl) (gq rfl) (by omega) (by omega)
  obtain ⟨hE, hs2⟩ := hw2
  obtain ⟨t', k', o', l', p', d', b', r', u', gc, gm, gok, gO, gQ⟩ : agr X a w2 n v (fun _ => True) := by
    have ht := ok.1
    have hr := ok.2.2.2.2.2.2.2.1.1
    have hd := ok.2.2.2.2.2.1.1
    rcases hD with ⟨rfl, j, j1, j2, j3, gc⟩ | ⟨rfl, h1, gc⟩
    · rcases hE with ⟨j', k1, k2, k3, gm⟩ | ⟨g1, gm⟩
      · obtain rfl : j = j' := nI_e j2 k2 (by omega) (by omega)
        exact ag hs2 gc gm (ok_del ok hn j) e1 (fun _ => trivial)
      · exact absurd ⟨j, j1, j2, j3⟩ g1
    · rcases hE with ⟨j', k1, k2, k3, gm⟩ | ⟨g1, gm⟩
      · exact absurd ⟨j', k1, k2, k3⟩ h1
      · exact ag hs2 gc gm (ok_mono ok hn) e1 (fun z => absurd z (by decide))
  obtain ⟨sc', hM2⟩ := gm.M
  refine w_aload_n d_L_law_250 rfl ?_
  refine w_vI [] c_L_89 d_L_law_251 rfl hM2 (by decide) (m_thrown hM2) (fun x w hw => ?_) rfl rfl (gq rfl) (gq rfl) (gq rfl) (gq rfl) (by omega) (by omega)
  obtain ⟨rfl, rfl⟩ := hw
  refine w_iload d_L_law_254 rfl ?_
  refine w_icmp_eq 261 d_L_law_256 (by decide) (fun _ => ?_) (fun hn => absurd (rfl) hn)
  refine w_goto 1127 d_L_law_261 (by decide) ?_
  exact w_sel [0, 1, 2, 3, 4] rfl (w_less (Nat.le_refl _) (Nat.le_refl _) (by omega) (by omega) (kk _ ⟨_, _, _, _, _, _, _, _, _, _, gc, gm, gok, gO⟩))
theorem k_change (hX : X.l.stackTraces = false) (h : cls X a c t k o l p d b r) (hm : mdl X a c th t k o l p d b r) (ok : okQ n t k o l p d b r) (hn : n < 600) (hO : c 94 = aJ X 1 u) (hi : i + 5 ≤ X.sl) (hsl : X.sl < 2 ^ 31) (hC : 4 ≤ C) (hS : 24 ≤ S) (kk : ∀ w, lwI X a w (n + 1) → GW X a m_L_law 11 388 (C - 4) (S - 24) 1127 [(0, .ref X.sb), (1, .ref (a 0)), (2, .ref (a 79)), (3, .ref (a 94)), (4, .int (nI i))] [] w PL) : GW X a m_L_law 11 388 C S 264 [(0, .ref X.sb), (1, .ref (a 0)), (2, .ref (a 79)), (3, .ref (a 94)), (4, .int (nI i))] [] c PL := by
  refine w_aload_n d_L_law_264 rfl ?_
  refine w_aload_n d_L_law_265 rfl ?_
  refine w_iload d_L_law_266 rfl ?_
  refine w_iconst 1 d_L_law_268 (by decide) ?_
  refine w_iadd d_L_law_269 ?_
  refine w_sald d_L_law_270 (nI_add i 1) (by omega) hsl ?_
  refine w_aload_n d_L_law_271 rfl ?_
  refine w_iload d_L_law_272 rfl ?_
  refine w_iconst 2 d_L_law_274 (by decide) ?_
  refine w_iadd d_L_law_275 ?_
  refine w_sald d_L_law_276 (nI_add i 2) (by omega) hsl ?_
  refine w_aload_n d_L_law_277 rfl ?_
  refine w_iload d_L_law_278 rfl ?_
  refine w_iconst 3 d_L_law_280 (by decide) ?_
  refine w_iadd d_L_law_281 ?_
  refine w_sald d_L_law_282 (nI_add i 3) (by omega) hsl ?_
  refine w_sI [_, _, _, _] c_L_97 d_L_law_283 (l_change hX h ok) (fun v w1 hw1 => ?_) rfl rfl (gq rfl) (gq rfl) (gq rfl) (gq rfl) (by omega) (by omega)
  obtain ⟨hD, hs⟩ := hw1
  have e1 := (hs 94 (by decide)).trans hO
  have hm := hm.keepL (sameL_a hs)
  obtain ⟨sc, hMM⟩ := hm.M
  refine w_istore d_L_law_286 (by decide) ?_
  refine w_aload_n d_L_law_288 rfl ?_
  refine w_aload_n d_L_law_289 rfl ?_
  refine w_iload d_L_law_290 rfl ?_
  refine w_iconst 1 d_L_law_292 (by decide) ?_
  refine w_iadd d_L_law_293 ?_
  refine w_sald d_L_law_294 (nI_add i 1) (by omega) hsl ?_
  refine w_aload_n d_L_law_295 rfl ?_
  refine w_iload d_L_law_296 rfl ?_
  refine w_iconst 2 d_L_law_298 (by decide) ?_
  refine w_iadd d_L_law_299 ?_
  refine w_sald d_L_law_300 (nI_add i 2) (by omega) hsl ?_
  refine w_aload_n d_L_law_301 rfl ?_
  refine w_iload d_L_law_302 rfl ?_
  refine w_iconst 3 d_L_law_304 (by decide) ?_
  refine w_iadd d_L_law_305 ?_
  refine w_sald d_L_law_306 (nI_add i 3) (by omega) hsl ?_
  refine w_vV [_, _, _] c_L_100 d_L_law_307 rfl hMM (by decide) (m_change hm ok) (fun w2 hw2 => ?_) rfl rfl (gq rfl) (gq rfl) (gq rfl) (gq rfl) (by omega) (by omega)
  obtain ⟨hE, hs2⟩ := hw2
  obtain ⟨t', k', o', l', p', d', b', r', u', gc, gm, gok, gO, gQ⟩ : agr X a w2 n v (fun _ => True) := by
    have ht := ok.1
    have hr := ok.2.2.2.2.2.2.2.1.1
    have hd := ok.2.2.2.2.2.1.1
    rcases hD with ⟨rfl, j, q, j1, q1, h3, gc⟩ | ⟨rfl, h1, gc⟩ | ⟨rfl, h1, h2, gc⟩
    · rcases hE with ⟨j', q', k1, k2, k3, gm⟩ | ⟨g1, gm⟩ | ⟨g1, g2, gm⟩
      · obtain rfl : j = j' := nI_e j1.2.1 k1.2.1 (by omega) (by omega)
        obtain rfl : q = q' := nI_e q1.2 k2.2 (by omega) (by omega)
        exact ag hs2 gc gm (ok_put ok hn j q _) e1 (fun _ => trivial)
      · exact absurd ⟨⟨j, j1⟩, ⟨q, q1⟩⟩ g1
      · exact absurd h3 g2
    · rcases hE with ⟨j', q', k1, k2, k3, gm⟩ | ⟨g1, gm⟩ | ⟨g1, g2, gm⟩
      · exact absurd ⟨⟨j', k1⟩, ⟨q', k2⟩⟩ h1
      · exact ag hs2 gc gm (ok_mono ok hn) e1 (fun z => absurd z (by decide))
      · exact absurd g1 h1
    · rcases hE with ⟨j', q', k1, k2, k3, gm⟩ | ⟨g1, gm⟩ | ⟨g1, g2, gm⟩
      · exact absurd k3 h2
      · exact absurd h1 g1
      · exact ag hs2 gc gm (ok_mono ok hn) e1 (fun z => absurd z (by decide))
  obtain ⟨sc', hM2⟩ := gm.M
  refine w_aload_n d_L_law_310 rfl ?_
  refine w_vI [] c_L_89 d_L_law_311 rfl hM2 (by decide) (m_thrown hM2) (fun x w hw => ?_) rfl rfl (gq rfl) (gq rfl) (gq rfl) (gq rfl) (by omega) (by omega)
  obtain ⟨rfl, rfl⟩ := hw
  refine w_iload d_L_law_314 rfl ?_
  refine w_icmp_eq 321 d_L_law_316 (by decide) (fun _ => ?_) (fun hn => absurd (rfl) hn)
  refine w_goto 1127 d_L_law_321 (by decide) ?_
  exact w_sel [0, 1, 2, 3, 4] rfl (w_less (Nat.le_refl _) (Nat.le_refl _) (by omega) (by omega) (kk _ ⟨_, _, _, _, _, _, _, _, _, _, gc, gm, gok, gO⟩))
theorem k_value (hX : X.l.stackTraces = false) (h : cls X a c t k o l p d b r) (hm : mdl X a c th t k o l p d b r) (ok : okQ n t k o l p d b r) (hn : n < 600) (hO : c 94 = aJ X 1 u) (hi : i + 5 ≤ X.sl) (hsl : X.sl < 2 ^ 31) (hC : 4 ≤ C) (hS : 24 ≤ S) (kk : ∀ w, lwI X a w (n + 1) → GW X a m_L_law 11 388 (C - 4) (S - 24) 1127 [(0, .ref X.sb), (1, .ref (a 0)), (2, .ref (a 79)), (3, .ref (a 94)), (4, .int (nI i))] [] w PL) : GW X a m_L_law 11 388 C S 324 [(0, .ref X.sb), (1, .ref (a 0)), (2, .ref (a 79)), (3, .ref (a 94)), (4, .int (nI i))] [] c PL := by
  refine w_aload_n d_L_law_324 rfl ?_
  refine w_aload_n d_L_law_325 rfl ?_
  refine w_iload d_L_law_326 rfl ?_
  refine w_iconst 1 d_L_law_328 (by decide) ?_
  refine w_iadd d_L_law_329 ?_
  refine w_sald d_L_law_330 (nI_add i 1) (by omega) hsl ?_
  refine w_aload_n d_L_law_331 rfl ?_
  refine w_iload d_L_law_332 rfl ?_
  refine w_iconst 2 d_L_law_334 (by decide) ?_
  refine w_iadd d_L_law_335 ?_
  refine w_sald d_L_law_336 (nI_add i 2) (by omega) hsl ?_
  refine w_aload_n d_L_law_337 rfl ?_
  refine w_sI [_, _, _, _] c_L_101 d_L_law_338 (l_value hX h ok hO) (fun v w1 hw1 => ?_) rfl rfl (gq rfl) (gq rfl) (gq rfl) (gq rfl) (by omega) (by omega)
  obtain ⟨hD, hs⟩ := hw1
  have hm := hm.keepL hs
  obtain ⟨sc, hMM⟩ := hm.M
  refine w_istore d_L_law_341 (by decide) ?_
  refine w_aload_n d_L_law_343 rfl ?_
  refine w_aload_n d_L_law_344 rfl ?_
  refine w_iload d_L_law_345 rfl ?_
  refine w_iconst 1 d_L_law_347 (by decide) ?_
  refine w_iadd d_L_law_348 ?_
  refine w_sald d_L_law_349 (nI_add i 1) (by omega) hsl ?_
  refine w_aload_n d_L_law_350 rfl ?_
  refine w_iload d_L_law_351 rfl ?_
  refine w_iconst 2 d_L_law_353 (by decide) ?_
  refine w_iadd d_L_law_354 ?_
  refine w_sald d_L_law_355 (nI_add i 2) (by omega) hsl ?_
  refine w_vI [_, _] c_L_104 d_L_law_356 rfl hMM (by decide) (m_value hm ok) (fun v2 w2 hw2 => ?_) rfl rfl (gq rfl) (gq rfl) (gq rfl) (gq rfl) (by omega) (by omega)
  obtain ⟨hE, hs2⟩ := hw2
  obtain ⟨t', k', o', l', p', d', b', r', u', gc, gm, gok, gO, gQ⟩ : agr X a w2 n v (fun q => q = Int32.toInt64 v2) := by
    have ht := ok.1
    have hr := ok.2.2.2.2.2.2.2.1.1
    have hd := ok.2.2.2.2.2.1.1
    rcases hD with ⟨rfl, j, q, j1, q1, ⟨u', e1, e2⟩, gc⟩ | ⟨rfl, h1, e1, gc⟩
    · rcases hE with ⟨j', q', k1, k2, rfl, gm⟩ | ⟨g1, gm⟩
      · obtain rfl : j = j' := nI_e j1.2.1 k1.2.1 (by omega) (by omega)
        obtain rfl : q = q' := nI_e q1.2 k2.2 (by omega) (by omega)
        exact ag hs2 gc gm (ok_mono ok hn) e1 (fun _ => e2)
      · exact absurd ⟨⟨j, j1⟩, ⟨q, q1⟩⟩ g1
    · rcases hE with ⟨j', q', k1, k2, -, gm⟩ | ⟨g1, gm⟩
      · exact absurd ⟨⟨j', k1⟩, ⟨q', k2⟩⟩ h1
      · exact ag hs2 gc gm (ok_mono ok hn) e1 (fun z => absurd z (by decide))
  obtain ⟨sc', hM2⟩ := gm.M
  refine w_istore d_L_law_359 (by decide) ?_
  refine w_aload_n d_L_law_361 rfl ?_
  refine w_vI [] c_L_89 d_L_law_362 rfl hM2 (by decide) (m_thrown hM2) (fun x w hw => ?_) rfl rfl (gq rfl) (gq rfl) (gq rfl) (gq rfl) (by omega) (by omega)
  obtain ⟨rfl, rfl⟩ := hw
  refine w_iload d_L_law_365 rfl ?_
  refine w_icmp_eq 372 d_L_law_367 (by decide) (fun _ => ?_) (fun hn => absurd (rfl) hn)
  refine w_iload d_L_law_372 rfl ?_
  refine w_if_ne 389 d_L_law_374 (by decide) (fun hv => ?_) (fun hv => ?_)
  · -- taken
    refine w_goto 1127 d_L_law_389 (by decide) ?_
    exact w_sel [0, 1, 2, 3, 4] rfl (w_less (Nat.le_refl _) (Nat.le_refl _) (by omega) (by omega) (kk _ ⟨_, _, _, _, _, _, _, _, _, _, gc, gm, gok, gO⟩))
  · -- not taken
    refine w_aload_n d_L_law_377 rfl ?_
    refine w_iconst 0 d_L_law_378 (by decide) ?_
    refine w_lald d_L_law_379 gO (show (0 : Int32) = nI 0 from rfl) (by decide : 0 < 1) (by decide) (by decide) ?_
    refine w_iload d_L_law_380 rfl ?_
    refine w_i2l d_L_law_382 ?_
    refine w_lcmp d_L_law_383 ?_
    refine w_if_eq 389 d_L_law_384 (by decide) (fun _ => ?_) (fun hn => absurd (((lcmp_eq _ _).mpr (gQ hv))) hn)
    refine w_goto 1127 d_L_law_389 (by decide) ?_
    exact w_sel [0, 1, 2, 3, 4] rfl (w_less (Nat.le_refl _) (Nat.le_refl _) (by omega) (by omega) (kk _ ⟨_, _, _, _, _, _, _, _, _, _, gc, gm, gok, gO⟩))
theorem k_where (hX : X.l.stackTraces = false) (h : cls X a c t k o l p d b r) (hm : mdl X a c th t k o l p d b r) (ok : okQ n t k o l p d b r) (hn : n < 600) (hO : c 94 = aJ X 1 u) (hi : i + 5 ≤ X.sl) (hsl : X.sl < 2 ^ 31) (hC : 4 ≤ C) (hS : 24 ≤ S) (kk : ∀ w, lwI X a w (n + 1) → GW X a m_L_law 11 388 (C - 4) (S - 24) 1127 [(0, .ref X.sb), (1, .ref (a 0)), (2, .ref (a 79)), (3, .ref (a 94)), (4, .int (nI i))] [] w PL) : GW X a m_L_law 11 388 C S 392 [(0, .ref X.sb), (1, .ref (a 0)), (2, .ref (a 79)), (3, .ref (a 94)), (4, .int (nI i))] [] c PL := by
  refine w_aload_n d_L_law_392 rfl ?_
  refine w_aload_n d_L_law_393 rfl ?_
  refine w_iload d_L_law_394 rfl ?_
  refine w_iconst 1 d_L_law_396 (by decide) ?_
  refine w_iadd d_L_law_397 ?_
  refine w_sald d_L_law_398 (nI_add i 1) (by omega) hsl ?_
  refine w_aload_n d_L_law_399 rfl ?_
  refine w_iload d_L_law_400 rfl ?_
  refine w_iconst 2 d_L_law_402 (by decide) ?_
  refine w_iadd d_L_law_403 ?_
  refine w_sald d_L_law_404 (nI_add i 2) (by omega) hsl ?_
  refine w_aload_n d_L_law_405 rfl ?_
  refine w_iload d_L_law_406 rfl ?_
  refine w_iconst 3 d_L_law_408 (by decide) ?_
  refine w_iadd d_L_law_409 ?_
  refine w_sald d_L_law_410 (nI_add i 3) (by omega) hsl ?_
  refine w_aload_n d_L_law_411 rfl ?_
  refine w_iload d_L_law_412 rfl ?_
  refine w_iconst 4 d_L_law_414 (by decide) ?_
  refine w_iadd d_L_law_415 ?_
  refine w_sald d_L_law_416 (nI_add i 4) (by omega) hsl ?_
  refine w_sI [_, _, _, _, _] c_L_105 d_L_law_417 (l_where hX h) (fun v w1 hw1 => ?_) rfl rfl (gq rfl) (gq rfl) (gq rfl) (gq rfl) (by omega) (by omega)
  obtain ⟨hD, hs⟩ := hw1
  have e1 := (hs 94 (by decide)).trans hO
  have hm := hm.keepL (sameL_a hs)
  obtain ⟨sc, hMM⟩ := hm.M
  refine w_istore d_L_law_420 (by decide) ?_
  refine w_aload_n d_L_law_422 rfl ?_
  refine w_aload_n d_L_law_423 rfl ?_
  refine w_iload d_L_law_424 rfl ?_
  refine w_iconst 1 d_L_law_426 (by decide) ?_
  refine w_iadd d_L_law_427 ?_
  refine w_sald d_L_law_428 (nI_add i 1) (by omega) hsl ?_
  refine w_aload_n d_L_law_429 rfl ?_
  refine w_iload d_L_law_430 rfl ?_
  refine w_iconst 2 d_L_law_432 (by decide) ?_
  refine w_iadd d_L_law_433 ?_
  refine w_sald d_L_law_434 (nI_add i 2) (by omega) hsl ?_
  refine w_aload_n d_L_law_435 rfl ?_
  refine w_iload d_L_law_436 rfl ?_
  refine w_iconst 3 d_L_law_438 (by decide) ?_
  refine w_iadd d_L_law_439 ?_
  refine w_sald d_L_law_440 (nI_add i 3) (by omega) hsl ?_
  refine w_aload_n d_L_law_441 rfl ?_
  refine w_iload d_L_law_442 rfl ?_
  refine w_iconst 4 d_L_law_444 (by decide) ?_
  refine w_iadd d_L_law_445 ?_
  refine w_sald d_L_law_446 (nI_add i 4) (by omega) hsl ?_
  refine w_vV [_, _, _, _] c_L_108 d_L_law_447 rfl hMM (by decide) (m_where hm) (fun w2 hw2 => ?_) rfl rfl (gq rfl) (gq rfl) (gq rfl) (gq rfl) (by omega) (by omega)
  obtain ⟨hE, hs2⟩ := hw2
  obtain ⟨t', k', o', l', p', d', b', r', u', gc, gm, gok, gO, gQ⟩ : agr X a w2 n v (fun _ => True) := by
    have ht := ok.1
    have hr := ok.2.2.2.2.2.2.2.1.1
    have hd := ok.2.2.2.2.2.1.1
    rcases hD with ⟨rfl, q, q1, h2, gc⟩ | ⟨rfl, h1, gc⟩ | ⟨rfl, h1, h2, gc⟩
    · rcases hE with ⟨q', k1, k2, gm⟩ | ⟨g1, gm⟩ | ⟨g1, g2, gm⟩
      · obtain rfl : q = q' := nI_e q1.2 k1.2 (by omega) (by omega)
        exact ag hs2 gc gm (ok_where ok hn h2 _ _) e1 (fun _ => trivial)
      · exact absurd ⟨q, q1⟩ g1
      · exact absurd h2 g2
    · rcases hE with ⟨q', k1, k2, gm⟩ | ⟨g1, gm⟩ | ⟨g1, g2, gm⟩
      · exact absurd ⟨q', k1⟩ h1
      · exact ag hs2 gc gm (ok_mono ok hn) e1 (fun z => absurd z (by decide))
      · exact absurd g1 h1
    · rcases hE with ⟨q', k1, k2, gm⟩ | ⟨g1, gm⟩ | ⟨g1, g2, gm⟩
      · exact absurd k2 h2
      · exact absurd h1 g1
      · exact ag hs2 gc gm (ok_mono ok hn) e1 (fun z => absurd z (by decide))
  obtain ⟨sc', hM2⟩ := gm.M
  refine w_aload_n d_L_law_450 rfl ?_
  refine w_vI [] c_L_89 d_L_law_451 rfl hM2 (by decide) (m_thrown hM2) (fun x w hw => ?_) rfl rfl (gq rfl) (gq rfl) (gq rfl) (gq rfl) (by omega) (by omega)
  obtain ⟨rfl, rfl⟩ := hw
  refine w_iload d_L_law_454 rfl ?_
  refine w_icmp_eq 461 d_L_law_456 (by decide) (fun _ => ?_) (fun hn => absurd (rfl) hn)
  refine w_goto 1127 d_L_law_461 (by decide) ?_
  exact w_sel [0, 1, 2, 3, 4] rfl (w_less (Nat.le_refl _) (Nat.le_refl _) (by omega) (by omega) (kk _ ⟨_, _, _, _, _, _, _, _, _, _, gc, gm, gok, gO⟩))
theorem k_order (hX : X.l.stackTraces = false) (h : cls X a c t k o l p d b r) (hm : mdl X a c th t k o l p d b r) (ok : okQ n t k o l p d b r) (hn : n < 600) (hO : c 94 = aJ X 1 u) (hi : i + 5 ≤ X.sl) (hsl : X.sl < 2 ^ 31) (hC : 4 ≤ C) (hS : 24 ≤ S) (kk : ∀ w, lwI X a w (n + 1) → GW X a m_L_law 11 388 (C - 4) (S - 24) 1127 [(0, .ref X.sb), (1, .ref (a 0)), (2, .ref (a 79)), (3, .ref (a 94)), (4, .int (nI i))] [] w PL) : GW X a m_L_law 11 388 C S 464 [(0, .ref X.sb), (1, .ref (a 0)), (2, .ref (a 79)), (3, .ref (a 94)), (4, .int (nI i))] [] c PL := by
  refine w_aload_n d_L_law_464 rfl ?_
  refine w_aload_n d_L_law_465 rfl ?_
  refine w_iload d_L_law_466 rfl ?_
  refine w_iconst 1 d_L_law_468 (by decide) ?_
  refine w_iadd d_L_law_469 ?_
  refine w_sald d_L_law_470 (nI_add i 1) (by omega) hsl ?_
  refine w_aload_n d_L_law_471 rfl ?_
  refine w_iload d_L_law_472 rfl ?_
  refine w_iconst 2 d_L_law_474 (by decide) ?_
  refine w_iadd d_L_law_475 ?_
  refine w_sald d_L_law_476 (nI_add i 2) (by omega) hsl ?_
  refine w_sI [_, _, _] c_L_109 d_L_law_477 (l_order hX h) (fun v w1 hw1 => ?_) rfl rfl (gq rfl) (gq rfl) (gq rfl) (gq rfl) (by omega) (by omega)
  obtain ⟨hD, hs⟩ := hw1
  have e1 := (hs 94 (by decide)).trans hO
  have hm := hm.keepL (sameL_a hs)
  obtain ⟨sc, hMM⟩ := hm.M
  refine w_istore d_L_law_480 (by decide) ?_
  refine w_aload_n d_L_law_482 rfl ?_
  refine w_aload_n d_L_law_483 rfl ?_
  refine w_iload d_L_law_484 rfl ?_
  refine w_iconst 1 d_L_law_486 (by decide) ?_
  refine w_iadd d_L_law_487 ?_
  refine w_sald d_L_law_488 (nI_add i 1) (by omega) hsl ?_
  refine w_aload_n d_L_law_489 rfl ?_
  refine w_iload d_L_law_490 rfl ?_
  refine w_iconst 2 d_L_law_492 (by decide) ?_
  refine w_iadd d_L_law_493 ?_
  refine w_sald d_L_law_494 (nI_add i 2) (by omega) hsl ?_
  refine w_vV [_, _] c_L_112 d_L_law_495 rfl hMM (by decide) (m_order hm) (fun w2 hw2 => ?_) rfl rfl (gq rfl) (gq rfl) (gq rfl) (gq rfl) (by omega) (by omega)
  obtain ⟨hE, hs2⟩ := hw2
  obtain ⟨t', k', o', l', p', d', b', r', u', gc, gm, gok, gO, gQ⟩ : agr X a w2 n v (fun _ => True) := by
    have ht := ok.1
    have hr := ok.2.2.2.2.2.2.2.1.1
    have hd := ok.2.2.2.2.2.1.1
    rcases hD with ⟨rfl, h1, m, m1, m2, gc⟩ | ⟨rfl, h1, gc⟩ | ⟨rfl, h1, h2, gc⟩
    · rcases hE with ⟨g1, m', k1, k2, gm⟩ | ⟨g1, gm⟩ | ⟨g1, g2, gm⟩
      · obtain rfl : m = m' := nI_e m2 k2 (by omega) (by omega)
        exact ag hs2 gc gm (ok_order ok hn h1 m1) e1 (fun _ => trivial)
      · exact absurd h1 g1
      · exact absurd ⟨m, m1, m2⟩ g2
    · rcases hE with ⟨g1, m', k1, k2, gm⟩ | ⟨g1, gm⟩ | ⟨g1, g2, gm⟩
      · exact absurd g1 h1
      · exact ag hs2 gc gm (ok_mono ok hn) e1 (fun z => absurd z (by decide))
      · exact absurd g1 h1
    · rcases hE with ⟨g1, m', k1, k2, gm⟩ | ⟨g1, gm⟩ | ⟨g1, g2, gm⟩
      · exact absurd ⟨m', k1, k2⟩ h2
      · exact absurd h1 g1
      · exact ag hs2 gc gm (ok_mono ok hn) e1 (fun z => absurd z (by decide))
  obtain ⟨sc', hM2⟩ := gm.M
  refine w_aload_n d_L_law_498 rfl ?_
  refine w_vI [] c_L_89 d_L_law_499 rfl hM2 (by decide) (m_thrown hM2) (fun x w hw => ?_) rfl rfl (gq rfl) (gq rfl) (gq rfl) (gq rfl) (by omega) (by omega)
  obtain ⟨rfl, rfl⟩ := hw
  refine w_iload d_L_law_502 rfl ?_
  refine w_icmp_eq 509 d_L_law_504 (by decide) (fun _ => ?_) (fun hn => absurd (rfl) hn)
  refine w_goto 1127 d_L_law_509 (by decide) ?_
  exact w_sel [0, 1, 2, 3, 4] rfl (w_less (Nat.le_refl _) (Nat.le_refl _) (by omega) (by omega) (kk _ ⟨_, _, _, _, _, _, _, _, _, _, gc, gm, gok, gO⟩))
theorem k_ask (hX : X.l.stackTraces = false) (h : cls X a c t k o l p d b r) (hm : mdl X a c th t k o l p d b r) (ok : okQ n t k o l p d b r) (hn : n < 600) (hO : c 94 = aJ X 1 u) (hi : i + 5 ≤ X.sl) (hsl : X.sl < 2 ^ 31) (hC : 4 ≤ C) (hS : 24 ≤ S) (kk : ∀ w, lwI X a w (n + 1) → GW X a m_L_law 11 388 (C - 4) (S - 24) 1127 [(0, .ref X.sb), (1, .ref (a 0)), (2, .ref (a 79)), (3, .ref (a 94)), (4, .int (nI i))] [] w PL) : GW X a m_L_law 11 388 C S 512 [(0, .ref X.sb), (1, .ref (a 0)), (2, .ref (a 79)), (3, .ref (a 94)), (4, .int (nI i))] [] c PL := by
  refine w_aload_n d_L_law_512 rfl ?_
  refine w_vI [] c_L_113 d_L_law_513 rfl h.A (by decide) (a_ask h ok) (fun v w1 hw1 => ?_) rfl rfl (gq rfl) (gq rfl) (gq rfl) (gq rfl) (by omega) (by omega)
  obtain ⟨hv1, gc, hs⟩ := hw1
  have hm := hm.keepL (sameL_a hs)
  obtain ⟨sc, hMM⟩ := hm.M
  refine w_aload_n d_L_law_516 rfl ?_
  refine w_vI [] c_L_116 d_L_law_517 rfl hMM (by decide) (m_ask hm ok) (fun v2 w2 hw2 => ?_) rfl rfl (gq rfl) (gq rfl) (gq rfl) (gq rfl) (by omega) (by omega)
  obtain ⟨hv2, gm, hs2⟩ := hw2
  refine w_icmp_eq 1127 d_L_law_520 (by decide) (fun _ => ?_) (fun hn => absurd ((hv1.trans hv2.symm)) hn)
  obtain ⟨gok, gO⟩ : okQ (n + 1) _ _ _ _ _ _ _ _ ∧ w2 94 = aJ X 1 u := ⟨ok_ask ok hn, (hs2 94 (Or.inr (by decide))).trans ((hs 94 (by decide)).trans hO)⟩
  have gc := gc.keep (w := w2) (fun q hq => hs2 q (Or.inl (by omega)))
  exact w_less (Nat.le_refl _) (Nat.le_refl _) (by omega) (by omega) (kk _ ⟨_, _, _, _, _, _, _, _, _, _, gc, gm, gok, gO⟩)
theorem k_answer (hX : X.l.stackTraces = false) (h : cls X a c t k o l p d b r) (hm : mdl X a c th t k o l p d b r) (ok : okQ n t k o l p d b r) (hn : n < 600) (hO : c 94 = aJ X 1 u) (hi : i + 5 ≤ X.sl) (hsl : X.sl < 2 ^ 31) (hC : 4 ≤ C) (hS : 24 ≤ S) (kk : ∀ w, lwI X a w (n + 1) → GW X a m_L_law 11 388 (C - 4) (S - 24) 1127 [(0, .ref X.sb), (1, .ref (a 0)), (2, .ref (a 79)), (3, .ref (a 94)), (4, .int (nI i))] [] w PL) : GW X a m_L_law 11 388 C S 525 [(0, .ref X.sb), (1, .ref (a 0)), (2, .ref (a 79)), (3, .ref (a 94)), (4, .int (nI i))] [] c PL := by
  refine w_aload_n d_L_law_525 rfl ?_
  refine w_aload_n d_L_law_526 rfl ?_
  refine w_iload d_L_law_527 rfl ?_
  refine w_iconst 1 d_L_law_529 (by decide) ?_
  refine w_iadd d_L_law_530 ?_
  refine w_sald d_L_law_531 (nI_add i 1) (by omega) hsl ?_
  refine w_aload_n d_L_law_532 rfl ?_
  refine w_sI [_, _, _] c_L_117 d_L_law_533 (l_answer hX h ok hO) (fun v w1 hw1 => ?_) rfl rfl (gq rfl) (gq rfl) (gq rfl) (gq rfl) (by omega) (by omega)
  obtain ⟨hD, hs⟩ := hw1
  have hm := hm.keepL hs
  obtain ⟨sc, hMM⟩ := hm.M
  refine w_istore d_L_law_536 (by decide) ?_
  refine w_aload_n d_L_law_538 rfl ?_
  refine w_aload_n d_L_law_539 rfl ?_
  refine w_iload d_L_law_540 rfl ?_
  refine w_iconst 1 d_L_law_542 (by decide) ?_
  refine w_iadd d_L_law_543 ?_
  refine w_sald d_L_law_544 (nI_add i 1) (by omega) hsl ?_
  refine w_vI [_] c_L_120 d_L_law_545 rfl hMM (by decide) (m_answer hm ok) (fun v2 w2 hw2 => ?_) rfl rfl (gq rfl) (gq rfl) (gq rfl) (gq rfl) (by omega) (by omega)
  obtain ⟨hE, hs2⟩ := hw2
  obtain ⟨t', k', o', l', p', d', b', r', u', gc, gm, gok, gO, gQ⟩ : agr X a w2 n v (fun q => q = Int32.toInt64 v2) := by
    have ht := ok.1
    have hr := ok.2.2.2.2.2.2.2.1.1
    have hd := ok.2.2.2.2.2.1.1
    rcases hD with ⟨rfl, j, j1, j2, ⟨u', e1, e2⟩, gc⟩ | ⟨rfl, h1, e1, gc⟩
    · rcases hE with ⟨j', k1, k2, rfl, gm⟩ | ⟨g1, gm⟩
      · obtain rfl : j = j' := nI_e j2 k2 (by omega) (by omega)
        exact ag hs2 gc gm (ok_mono ok hn) e1 (fun _ => e2)
      · exact absurd ⟨j, j1, j2⟩ g1
    · rcases hE with ⟨j', k1, k2, -, gm⟩ | ⟨g1, gm⟩
      · exact absurd ⟨j', k1, k2⟩ h1
      · exact ag hs2 gc gm (ok_mono ok hn) e1 (fun z => absurd z (by decide))
  obtain ⟨sc', hM2⟩ := gm.M
  refine w_istore d_L_law_548 (by decide) ?_
  refine w_aload_n d_L_law_550 rfl ?_
  refine w_vI [] c_L_89 d_L_law_551 rfl hM2 (by decide) (m_thrown hM2) (fun x w hw => ?_) rfl rfl (gq rfl) (gq rfl) (gq rfl) (gq rfl) (by omega) (by omega)
  obtain ⟨rfl, rfl⟩ := hw
  refine w_iload d_L_law_554 rfl ?_
  refine w_icmp_eq 561 d_L_law_556 (by decide) (fun _ => ?_) (fun hn => absurd (rfl) hn)
  refine w_iload d_L_law_561 rfl ?_
  refine w_if_ne 578 d_L_law_563 (by decide) (fun hv => ?_) (fun hv => ?_)
  · -- taken
    refine w_goto 1127 d_L_law_578 (by decide) ?_
    exact w_sel [0, 1, 2, 3, 4] rfl (w_less (Nat.le_refl _) (Nat.le_refl _) (by omega) (by omega) (kk _ ⟨_, _, _, _, _, _, _, _, _, _, gc, gm, gok, gO⟩))
  · -- not taken
    refine w_aload_n d_L_law_566 rfl ?_
    refine w_iconst 0 d_L_law_567 (by decide) ?_
    refine w_lald d_L_law_568 gO (show (0 : Int32) = nI 0 from rfl) (by decide : 0 < 1) (by decide) (by decide) ?_
    refine w_iload d_L_law_569 rfl ?_
    refine w_i2l d_L_law_571 ?_
    refine w_lcmp d_L_law_572 ?_
    refine w_if_eq 578 d_L_law_573 (by decide) (fun _ => ?_) (fun hn => absurd (((lcmp_eq _ _).mpr (gQ hv))) hn)
    refine w_goto 1127 d_L_law_578 (by decide) ?_
    exact w_sel [0, 1, 2, 3, 4] rfl (w_less (Nat.le_refl _) (Nat.le_refl _) (by omega) (by omega) (kk _ ⟨_, _, _, _, _, _, _, _, _, _, gc, gm, gok, gO⟩))
theorem k_last (hX : X.l.stackTraces = false) (h : cls X a c t k o l p d b r) (hm : mdl X a c th t k o l p d b r) (ok : okQ n t k o l p d b r) (hn : n < 600) (hO : c 94 = aJ X 1 u) (hi : i + 5 ≤ X.sl) (hsl : X.sl < 2 ^ 31) (hC : 4 ≤ C) (hS : 24 ≤ S) (kk : ∀ w, lwI X a w (n + 1) → GW X a m_L_law 11 388 (C - 4) (S - 24) 1127 [(0, .ref X.sb), (1, .ref (a 0)), (2, .ref (a 79)), (3, .ref (a 94)), (4, .int (nI i))] [] w PL) : GW X a m_L_law 11 388 C S 581 [(0, .ref X.sb), (1, .ref (a 0)), (2, .ref (a 79)), (3, .ref (a 94)), (4, .int (nI i))] [] c PL := by
  refine w_aload_n d_L_law_581 rfl ?_
  refine w_aload_n d_L_law_582 rfl ?_
  refine w_iload d_L_law_583 rfl ?_
  refine w_iconst 1 d_L_law_585 (by decide) ?_
  refine w_iadd d_L_law_586 ?_
  refine w_sald d_L_law_587 (nI_add i 1) (by omega) hsl ?_
  refine w_aload_n d_L_law_588 rfl ?_
  refine w_sI [_, _, _] c_L_121 d_L_law_589 (l_last hX h hO) (fun v w1 hw1 => ?_) rfl rfl (gq rfl) (gq rfl) (gq rfl) (gq rfl) (by omega) (by omega)
  obtain ⟨hD, hs⟩ := hw1
  have hm := hm.keepL hs
  obtain ⟨sc, hMM⟩ := hm.M
  refine w_istore d_L_law_592 (by decide) ?_
  refine w_aload_n d_L_law_594 rfl ?_
  refine w_aload_n d_L_law_595 rfl ?_
  refine w_iload d_L_law_596 rfl ?_
  refine w_iconst 1 d_L_law_598 (by decide) ?_
  refine w_iadd d_L_law_599 ?_
  refine w_sald d_L_law_600 (nI_add i 1) (by omega) hsl ?_
  refine w_vI [_] c_L_123 d_L_law_601 rfl hMM (by decide) (m_last hm) (fun v2 w2 hw2 => ?_) rfl rfl (gq rfl) (gq rfl) (gq rfl) (gq rfl) (by omega) (by omega)
  obtain ⟨hE, hs2⟩ := hw2
  obtain ⟨t', k', o', l', p', d', b', r', u', gc, gm, gok, gO, gQ⟩ : agr X a w2 n v (fun q => q = Int32.toInt64 v2) := by
    have ht := ok.1
    have hr := ok.2.2.2.2.2.2.2.1.1
    have hd := ok.2.2.2.2.2.1.1
    rcases hD with ⟨rfl, y, y1, ⟨u', e1, e2⟩, gc⟩ | ⟨rfl, h1, e1, gc⟩
    · rcases hE with ⟨k1, gm⟩ | ⟨g1, gm⟩
      · obtain rfl := sel4 y1 k1
        exact ag hs2 gc gm (ok_mono ok hn) e1 (fun _ => e2)
      · exact absurd (sel4o y1) g1
    · rcases hE with ⟨k1, gm⟩ | ⟨g1, gm⟩
      · exact absurd (sel4o k1) h1
      · exact ag hs2 gc gm (ok_mono ok hn) e1 (fun z => absurd z (by decide))
  obtain ⟨sc', hM2⟩ := gm.M
  refine w_istore d_L_law_604 (by decide) ?_
  refine w_aload_n d_L_law_606 rfl ?_
  refine w_vI [] c_L_89 d_L_law_607 rfl hM2 (by decide) (m_thrown hM2) (fun x w hw => ?_) rfl rfl (gq rfl) (gq rfl) (gq rfl) (gq rfl) (by omega) (by omega)
  obtain ⟨rfl, rfl⟩ := hw
  refine w_iload d_L_law_610 rfl ?_
  refine w_icmp_eq 617 d_L_law_612 (by decide) (fun _ => ?_) (fun hn => absurd (rfl) hn)
  refine w_iload d_L_law_617 rfl ?_
  refine w_if_ne 634 d_L_law_619 (by decide) (fun hv => ?_) (fun hv => ?_)
  · -- taken
    refine w_goto 1127 d_L_law_634 (by decide) ?_
    exact w_sel [0, 1, 2, 3, 4] rfl (w_less (Nat.le_refl _) (Nat.le_refl _) (by omega) (by omega) (kk _ ⟨_, _, _, _, _, _, _, _, _, _, gc, gm, gok, gO⟩))
  · -- not taken
    refine w_aload_n d_L_law_622 rfl ?_
    refine w_iconst 0 d_L_law_623 (by decide) ?_
    refine w_lald d_L_law_624 gO (show (0 : Int32) = nI 0 from rfl) (by decide : 0 < 1) (by decide) (by decide) ?_
    refine w_iload d_L_law_625 rfl ?_
    refine w_i2l d_L_law_627 ?_
    refine w_lcmp d_L_law_628 ?_
    refine w_if_eq 634 d_L_law_629 (by decide) (fun _ => ?_) (fun hn => absurd (((lcmp_eq _ _).mpr (gQ hv))) hn)
    refine w_goto 1127 d_L_law_634 (by decide) ?_
    exact w_sel [0, 1, 2, 3, 4] rfl (w_less (Nat.le_refl _) (Nat.le_refl _) (by omega) (by omega) (kk _ ⟨_, _, _, _, _, _, _, _, _, _, gc, gm, gok, gO⟩))
theorem k_cost (hX : X.l.stackTraces = false) (h : cls X a c t k o l p d b r) (hm : mdl X a c th t k o l p d b r) (ok : okQ n t k o l p d b r) (hn : n < 600) (hO : c 94 = aJ X 1 u) (hi : i + 5 ≤ X.sl) (hsl : X.sl < 2 ^ 31) (hC : 4 ≤ C) (hS : 24 ≤ S) (kk : ∀ w, lwI X a w (n + 1) → GW X a m_L_law 11 388 (C - 4) (S - 24) 1127 [(0, .ref X.sb), (1, .ref (a 0)), (2, .ref (a 79)), (3, .ref (a 94)), (4, .int (nI i))] [] w PL) : GW X a m_L_law 11 388 C S 637 [(0, .ref X.sb), (1, .ref (a 0)), (2, .ref (a 79)), (3, .ref (a 94)), (4, .int (nI i))] [] c PL := by
  refine w_aload_n d_L_law_637 rfl ?_
  refine w_aload_n d_L_law_638 rfl ?_
  refine w_iload d_L_law_639 rfl ?_
  refine w_iconst 1 d_L_law_641 (by decide) ?_
  refine w_iadd d_L_law_642 ?_
  refine w_sald d_L_law_643 (nI_add i 1) (by omega) hsl ?_
  refine w_aload_n d_L_law_644 rfl ?_
  refine w_sI [_, _, _] c_L_124 d_L_law_645 (l_cost hX h ok hO) (fun v w1 hw1 => ?_) rfl rfl (gq rfl) (gq rfl) (gq rfl) (gq rfl) (by omega) (by omega)
  obtain ⟨hD, hs⟩ := hw1
  have hm := hm.keepL hs
  obtain ⟨sc, hMM⟩ := hm.M
  refine w_istore d_L_law_648 (by decide) ?_
  refine w_aload_n d_L_law_650 rfl ?_
  refine w_aload_n d_L_law_651 rfl ?_
  refine w_iload d_L_law_652 rfl ?_
  refine w_iconst 1 d_L_law_654 (by decide) ?_
  refine w_iadd d_L_law_655 ?_
  refine w_sald d_L_law_656 (nI_add i 1) (by omega) hsl ?_
  refine w_vI [_] c_L_126 d_L_law_657 rfl hMM (by decide) (m_cost hm ok) (fun v2 w2 hw2 => ?_) rfl rfl (gq rfl) (gq rfl) (gq rfl) (gq rfl) (by omega) (by omega)
  obtain ⟨hE, hs2⟩ := hw2
  obtain ⟨t', k', o', l', p', d', b', r', u', gc, gm, gok, gO, gQ⟩ : agr X a w2 n v (fun q => q = Int32.toInt64 v2) := by
    have ht := ok.1
    have hr := ok.2.2.2.2.2.2.2.1.1
    have hd := ok.2.2.2.2.2.1.1
    rcases hD with ⟨rfl, q, q1, q2, ⟨u', e1, e2⟩, gc⟩ | ⟨rfl, h1, e1, gc⟩
    · rcases hE with ⟨q', k1, k2, rfl, gm⟩ | ⟨g1, gm⟩
      · obtain rfl : q = q' := oI_e (q2.symm.trans k2) q1 k1
        exact ag hs2 gc gm (ok_mono ok hn) e1 (fun _ => e2)
      · exact absurd (oI_o q2 q1) g1
    · rcases hE with ⟨q', k1, k2, -, gm⟩ | ⟨g1, gm⟩
      · exact absurd (oI_o k2 k1) h1
      · exact ag hs2 gc gm (ok_mono ok hn) e1 (fun z => absurd z (by decide))
  obtain ⟨sc', hM2⟩ := gm.M
  refine w_istore d_L_law_660 (by decide) ?_
  refine w_aload_n d_L_law_662 rfl ?_
  refine w_vI [] c_L_89 d_L_law_663 rfl hM2 (by decide) (m_thrown hM2) (fun x w hw => ?_) rfl rfl (gq rfl) (gq rfl) (gq rfl) (gq rfl) (by omega) (by omega)
  obtain ⟨rfl, rfl⟩ := hw
  refine w_iload d_L_law_666 rfl ?_
  refine w_icmp_eq 673 d_L_law_668 (by decide) (fun _ => ?_) (fun hn => absurd (rfl) hn)
  refine w_iload d_L_law_673 rfl ?_
  refine w_if_ne 690 d_L_law_675 (by decide) (fun hv => ?_) (fun hv => ?_)
  · -- taken
    refine w_goto 1127 d_L_law_690 (by decide) ?_
    exact w_sel [0, 1, 2, 3, 4] rfl (w_less (Nat.le_refl _) (Nat.le_refl _) (by omega) (by omega) (kk _ ⟨_, _, _, _, _, _, _, _, _, _, gc, gm, gok, gO⟩))
  · -- not taken
    refine w_aload_n d_L_law_678 rfl ?_
    refine w_iconst 0 d_L_law_679 (by decide) ?_
    refine w_lald d_L_law_680 gO (show (0 : Int32) = nI 0 from rfl) (by decide : 0 < 1) (by decide) (by decide) ?_
    refine w_iload d_L_law_681 rfl ?_
    refine w_i2l d_L_law_683 ?_
    refine w_lcmp d_L_law_684 ?_
    refine w_if_eq 690 d_L_law_685 (by decide) (fun _ => ?_) (fun hn => absurd (((lcmp_eq _ _).mpr (gQ hv))) hn)
    refine w_goto 1127 d_L_law_690 (by decide) ?_
    exact w_sel [0, 1, 2, 3, 4] rfl (w_less (Nat.le_refl _) (Nat.le_refl _) (by omega) (by omega) (kk _ ⟨_, _, _, _, _, _, _, _, _, _, gc, gm, gok, gO⟩))
theorem k_index (hX : X.l.stackTraces = false) (h : cls X a c t k o l p d b r) (hm : mdl X a c th t k o l p d b r) (ok : okQ n t k o l p d b r) (hn : n < 600) (hO : c 94 = aJ X 1 u) (hi : i + 5 ≤ X.sl) (hsl : X.sl < 2 ^ 31) (hC : 4 ≤ C) (hS : 24 ≤ S) (kk : ∀ w, lwI X a w (n + 1) → GW X a m_L_law 11 388 (C - 4) (S - 24) 1127 [(0, .ref X.sb), (1, .ref (a 0)), (2, .ref (a 79)), (3, .ref (a 94)), (4, .int (nI i))] [] w PL) : GW X a m_L_law 11 388 C S 693 [(0, .ref X.sb), (1, .ref (a 0)), (2, .ref (a 79)), (3, .ref (a 94)), (4, .int (nI i))] [] c PL := by
  refine w_aload_n d_L_law_693 rfl ?_
  refine w_aload_n d_L_law_694 rfl ?_
  refine w_iload d_L_law_695 rfl ?_
  refine w_iconst 1 d_L_law_697 (by decide) ?_
  refine w_iadd d_L_law_698 ?_
  refine w_sald d_L_law_699 (nI_add i 1) (by omega) hsl ?_
  refine w_aload_n d_L_law_700 rfl ?_
  refine w_iload d_L_law_701 rfl ?_
  refine w_iconst 2 d_L_law_703 (by decide) ?_
  refine w_iadd d_L_law_704 ?_
  refine w_sald d_L_law_705 (nI_add i 2) (by omega) hsl ?_
  refine w_aload_n d_L_law_706 rfl ?_
  refine w_sI [_, _, _, _] c_L_127 d_L_law_707 (l_index hX h ok hO) (fun v w1 hw1 => ?_) rfl rfl (gq rfl) (gq rfl) (gq rfl) (gq rfl) (by omega) (by omega)
  obtain ⟨hD, hs⟩ := hw1
  have hm := hm.keepL hs
  obtain ⟨sc, hMM⟩ := hm.M
  refine w_istore d_L_law_710 (by decide) ?_
  refine w_aload_n d_L_law_712 rfl ?_
  refine w_aload_n d_L_law_713 rfl ?_
  refine w_iload d_L_law_714 rfl ?_
  refine w_iconst 1 d_L_law_716 (by decide) ?_
  refine w_iadd d_L_law_717 ?_
  refine w_sald d_L_law_718 (nI_add i 1) (by omega) hsl ?_
  refine w_aload_n d_L_law_719 rfl ?_
  refine w_iload d_L_law_720 rfl ?_
  refine w_iconst 2 d_L_law_722 (by decide) ?_
  refine w_iadd d_L_law_723 ?_
  refine w_sald d_L_law_724 (nI_add i 2) (by omega) hsl ?_
  refine w_vI [_, _] c_L_129 d_L_law_725 rfl hMM (by decide) (m_index hm ok) (fun v2 w2 hw2 => ?_) rfl rfl (gq rfl) (gq rfl) (gq rfl) (gq rfl) (by omega) (by omega)
  obtain ⟨hE, hs2⟩ := hw2
  obtain ⟨t', k', o', l', p', d', b', r', u', gc, gm, gok, gO, gQ⟩ : agr X a w2 n v (fun q => q = Int32.toInt64 v2) := by
    have ht := ok.1
    have hr := ok.2.2.2.2.2.2.2.1.1
    have hd := ok.2.2.2.2.2.1.1
    rcases hD with ⟨rfl, j, z, j1, z1, ⟨u', e1, e2⟩, gc⟩ | ⟨rfl, h1, e1, gc⟩
    · rcases hE with ⟨j', k1, k2, gm⟩ | ⟨g1, gm⟩
      · obtain rfl : j = j' := nI_e j1.2 k1.2 (by omega) (by omega)
        obtain rfl := sel4 z1 k2
        exact ag hs2 gc gm (ok_mono ok hn) e1 (fun _ => e2)
      · exact absurd ⟨⟨j, j1⟩, sel4o z1⟩ g1
    · rcases hE with ⟨j', k1, k2, gm⟩ | ⟨g1, gm⟩
      · exact absurd ⟨⟨j', k1⟩, sel4o k2⟩ h1
      · exact ag hs2 gc gm (ok_mono ok hn) e1 (fun z => absurd z (by decide))
  obtain ⟨sc', hM2⟩ := gm.M
  refine w_istore d_L_law_728 (by decide) ?_
  refine w_aload_n d_L_law_730 rfl ?_
  refine w_vI [] c_L_89 d_L_law_731 rfl hM2 (by decide) (m_thrown hM2) (fun x w hw => ?_) rfl rfl (gq rfl) (gq rfl) (gq rfl) (gq rfl) (by omega) (by omega)
  obtain ⟨rfl, rfl⟩ := hw
  refine w_iload d_L_law_734 rfl ?_
  refine w_icmp_eq 741 d_L_law_736 (by decide) (fun _ => ?_) (fun hn => absurd (rfl) hn)
  refine w_iload d_L_law_741 rfl ?_
  refine w_if_ne 758 d_L_law_743 (by decide) (fun hv => ?_) (fun hv => ?_)
  · -- taken
    refine w_goto 1127 d_L_law_758 (by decide) ?_
    exact w_sel [0, 1, 2, 3, 4] rfl (w_less (Nat.le_refl _) (Nat.le_refl _) (by omega) (by omega) (kk _ ⟨_, _, _, _, _, _, _, _, _, _, gc, gm, gok, gO⟩))
  · -- not taken
    refine w_aload_n d_L_law_746 rfl ?_
    refine w_iconst 0 d_L_law_747 (by decide) ?_
    refine w_lald d_L_law_748 gO (show (0 : Int32) = nI 0 from rfl) (by decide : 0 < 1) (by decide) (by decide) ?_
    refine w_iload d_L_law_749 rfl ?_
    refine w_i2l d_L_law_751 ?_
    refine w_lcmp d_L_law_752 ?_
    refine w_if_eq 758 d_L_law_753 (by decide) (fun _ => ?_) (fun hn => absurd (((lcmp_eq _ _).mpr (gQ hv))) hn)
    refine w_goto 1127 d_L_law_758 (by decide) ?_
    exact w_sel [0, 1, 2, 3, 4] rfl (w_less (Nat.le_refl _) (Nat.le_refl _) (by omega) (by omega) (kk _ ⟨_, _, _, _, _, _, _, _, _, _, gc, gm, gok, gO⟩))
end LK
