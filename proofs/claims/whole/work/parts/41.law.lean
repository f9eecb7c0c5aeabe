abbrev eL_law : z_Me := (x, code, 4, some .boolean)
theorem z_ob0 : z_ob 0 12 := by decide +kernel
theorem z_ob102 : z_ob 102 13 := by decide +kernel
def fL_c0 (xs : Nat → Int32) (L : Nat) (p3 : Int32) (I : Nat → Nat → Int32) (R : Nat → Nat → Nat) : Option ((Int32 × (Nat → Nat → Int32) × (Nat → Nat → Nat)) ⊕ Int32) :=
  z_g (¬ ((p3 + (1 : Int32)) < 0 ∨ L ≤ (p3 + (1 : Int32)).toNatClampNeg)) (z_g (¬ ((p3 + (2 : Int32)) < 0 ∨ L ≤ (p3 + (2 : Int32)).toNatClampNeg)) (z_g (¬ ((p3 + (3 : Int32)) < 0 ∨ L ≤ (p3 + (3 : Int32)).toNatClampNeg)) (z_g (¬ ((p3 + (4 : Int32)) < 0 ∨ L ≤ (p3 + (4 : Int32)).toNatClampNeg)) (z_g (¬ ((p3 + (5 : Int32)) < 0 ∨ L ≤ (p3 + (5 : Int32)).toNatClampNeg)) (z_b (fX12_singer 0 (xs (p3 + (1 : Int32)).toNatClampNeg) (xs (p3 + (2 : Int32)).toNatClampNeg) (xs (p3 + (3 : Int32)).toNatClampNeg) (xs (p3 + (4 : Int32)).toNatClampNeg) (xs (p3 + (5 : Int32)).toNatClampNeg) I R) (fun q7 => z_b (fX13_singer 102 (xs (p3 + (1 : Int32)).toNatClampNeg) (xs (p3 + (2 : Int32)).toNatClampNeg) (xs (p3 + (3 : Int32)).toNatClampNeg) (xs (p3 + (4 : Int32)).toNatClampNeg) (xs (p3 + (5 : Int32)).toNatClampNeg) q7.2 R) (fun q8 => if q7.1 = q8.1 then (z_l (p3 + (6 : Int32)) (fun t10 => some (.inl (t10, q8.2, R)))) else (some (.inr (0 : Int32))))))))))
set_option maxRecDepth 20000 in
theorem wL_c0 {G : z_G} {d : Nat} {Q : Option Value → z_S → z_H → Prop} {p3 : Int32} {I : Nat → Nat → Int32} {R : Nat → Nat → Nat} {o : (Int32 × (Nat → Nat → Int32) × (Nat → Nat → Nat)) ⊕ Int32} (hd : 68 ≤ d) (hf : fL_c0 G.2.2.2.2.2.2 G.2.2.2.2.2.1 p3 I R = some o) (hk : z_or (fun s : Int32 × (Nat → Nat → Int32) × (Nat → Nat → Nat) => z_W G eL_law d 0 0 18 [some (.ref 100000), some (.ref 0), some (.ref 102), some (.int s.1)] [] z_SH (s.2.1, s.2.2) Q) (fun v : Int32 => ∀ h, Q (some (.int v)) z_SH h) o) : z_W G eL_law d 0 0 196 [some (.ref 100000), some (.ref 0), some (.ref 102), some (.int p3)] [] z_SH (I, R) Q := by
  unfold fL_c0 at hf
  refine z_aload_n dL_law_196 rfl rfl (by decide) ?_
  refine z_aload_n dL_law_197 rfl rfl (by decide) ?_
  refine z_iload_n dL_law_198 rfl rfl ?_
  refine z_iconst dL_law_199 kc_1 ?_
  refine z_iadd dL_law_200 ?_
  obtain ⟨g2, hf⟩ := z_g_el hf
  refine z_sald g2 dL_law_201 ?_
  refine z_aload_n dL_law_202 rfl rfl (by decide) ?_
  refine z_iload_n dL_law_203 rfl rfl ?_
  refine z_iconst dL_law_204 kc_2 ?_
  refine z_iadd dL_law_205 ?_
  obtain ⟨g3, hf⟩ := z_g_el hf
  refine z_sald g3 dL_law_206 ?_
  refine z_aload_n dL_law_207 rfl rfl (by decide) ?_
  refine z_iload_n dL_law_208 rfl rfl ?_
  refine z_iconst dL_law_209 kc_3 ?_
  refine z_iadd dL_law_210 ?_
  obtain ⟨g4, hf⟩ := z_g_el hf
  refine z_sald g4 dL_law_211 ?_
  refine z_aload_n dL_law_212 rfl rfl (by decide) ?_
  refine z_iload_n dL_law_213 rfl rfl ?_
  refine z_iconst dL_law_214 kc_4 ?_
  refine z_iadd dL_law_215 ?_
  obtain ⟨g5, hf⟩ := z_g_el hf
  refine z_sald g5 dL_law_216 ?_
  refine z_aload_n dL_law_217 rfl rfl (by decide) ?_
  refine z_iload_n dL_law_218 rfl rfl ?_
  refine z_iconst dL_law_219 kc_5 ?_
  refine z_iadd dL_law_220 ?_
  obtain ⟨g6, hf⟩ := z_g_el hf
  refine z_sald g6 dL_law_221 ?_
  obtain ⟨q7, hq7, hf⟩ := z_b_el hf
  refine y_cVi (av := [.int (G.2.2.2.2.2.2 (p3 + (1 : Int32)).toNatClampNeg), .int (G.2.2.2.2.2.2 (p3 + (2 : Int32)).toNatClampNeg), .int (G.2.2.2.2.2.2 (p3 + (3 : Int32)).toNatClampNeg), .int (G.2.2.2.2.2.2 (p3 + (4 : Int32)).toNatClampNeg), .int (G.2.2.2.2.2.2 (p3 + (5 : Int32)).toNatClampNeg)]) (Nat.le_trans (Nat.le_of_ble_eq_true rfl) hd) (wX12_singer (z_dl rfl hd) hq7) oX12_singer lmL_13 iX12_singer z_ob0 rfl _ rfl rfl (Nat.le_of_ble_eq_true rfl) dL_law_222 ?_
  refine z_aload_n dL_law_225 rfl rfl (by decide) ?_
  refine z_aload_n dL_law_226 rfl rfl (by decide) ?_
  refine z_iload_n dL_law_227 rfl rfl ?_
  refine z_iconst dL_law_228 kc_1 ?_
  refine z_iadd dL_law_229 ?_
  refine z_sald g2 dL_law_230 ?_
  refine z_aload_n dL_law_231 rfl rfl (by decide) ?_
  refine z_iload_n dL_law_232 rfl rfl ?_
  refine z_iconst dL_law_233 kc_2 ?_
  refine z_iadd dL_law_234 ?_
  refine z_sald g3 dL_law_235 ?_
  refine z_aload_n dL_law_236 rfl rfl (by decide) ?_
  refine z_iload_n dL_law_237 rfl rfl ?_
  refine z_iconst dL_law_238 kc_3 ?_
  refine z_iadd dL_law_239 ?_
  refine z_sald g4 dL_law_240 ?_
  refine z_aload_n dL_law_241 rfl rfl (by decide) ?_
  refine z_iload_n dL_law_242 rfl rfl ?_
  refine z_iconst dL_law_243 kc_4 ?_
  refine z_iadd dL_law_244 ?_
  refine z_sald g5 dL_law_245 ?_
  refine z_aload_n dL_law_246 rfl rfl (by decide) ?_
  refine z_iload_n dL_law_247 rfl rfl ?_
  refine z_iconst dL_law_248 kc_5 ?_
  refine z_iadd dL_law_249 ?_
  refine z_sald g6 dL_law_250 ?_
  obtain ⟨q8, hq8, hf⟩ := z_b_el hf
  refine y_cVi (av := [.int (G.2.2.2.2.2.2 (p3 + (1 : Int32)).toNatClampNeg), .int (G.2.2.2.2.2.2 (p3 + (2 : Int32)).toNatClampNeg), .int (G.2.2.2.2.2.2 (p3 + (3 : Int32)).toNatClampNeg), .int (G.2.2.2.2.2.2 (p3 + (4 : Int32)).toNatClampNeg), .int (G.2.2.2.2.2.2 (p3 + (5 : Int32)).toNatClampNeg)]) (Nat.le_trans (Nat.le_of_ble_eq_true rfl) hd) (wX13_singer (z_dl rfl hd) hq8) oX13_singer lmL_17 iX13_singer z_ob102 rfl _ rfl rfl (Nat.le_of_ble_eq_true rfl) dL_law_251 ?_
  refine z_icmp_eq (tgt := 1317) dL_law_254 (by decide) (fun c9 => ?_) (fun c9 => ?_)
  · have hf := z_if_t hf c9
    refine y_iinc (fun t10 => [some (.ref 100000), some (.ref 0), some (.ref 102), some (.int t10)]) dL_law_1317 rfl kc_6 (by decide) (fun _ => rfl) (fun t10 et10 => ?_)
    have hf := z_l_el hf et10
    refine z_goto (tgt := 18) dL_law_1320 (by decide) ?_
    cases hf
    exact hk
  · have hf := z_if_f hf c9
    refine z_iconst dL_law_257 kc_0 ?_
    cases hf
    exact z_iret (hk _) ⟨_, rfl, rfl⟩ dL_law_258
def fL_c1 (xs : Nat → Int32) (L : Nat) (p3 : Int32) (I : Nat → Nat → Int32) (R : Nat → Nat → Nat) : Option ((Int32 × (Nat → Nat → Int32) × (Nat → Nat → Nat)) ⊕ Int32) :=
  z_g (¬ ((p3 + (1 : Int32)) < 0 ∨ L ≤ (p3 + (1 : Int32)).toNatClampNeg)) (z_b (fX12_ears 0 (xs (p3 + (1 : Int32)).toNatClampNeg) I R) (fun q12 => z_b (fX13_ears 102 (xs (p3 + (1 : Int32)).toNatClampNeg) q12.2) (fun q13 => if q12.1 = q13.1 then (z_l (p3 + (6 : Int32)) (fun t15 => some (.inl (t15, q13.2, R)))) else (some (.inr (0 : Int32))))))
set_option maxRecDepth 20000 in
theorem wL_c1 {G : z_G} {d : Nat} {Q : Option Value → z_S → z_H → Prop} {p3 : Int32} {I : Nat → Nat → Int32} {R : Nat → Nat → Nat} {o : (Int32 × (Nat → Nat → Int32) × (Nat → Nat → Nat)) ⊕ Int32} (hd : 68 ≤ d) (hf : fL_c1 G.2.2.2.2.2.2 G.2.2.2.2.2.1 p3 I R = some o) (hk : z_or (fun s : Int32 × (Nat → Nat → Int32) × (Nat → Nat → Nat) => z_W G eL_law d 0 0 18 [some (.ref 100000), some (.ref 0), some (.ref 102), some (.int s.1)] [] z_SH (s.2.1, s.2.2) Q) (fun v : Int32 => ∀ h, Q (some (.int v)) z_SH h) o) : z_W G eL_law d 0 0 259 [some (.ref 100000), some (.ref 0), some (.ref 102), some (.int p3)] [] z_SH (I, R) Q := by
  unfold fL_c1 at hf
  refine z_aload_n dL_law_259 rfl rfl (by decide) ?_
  refine z_aload_n dL_law_260 rfl rfl (by decide) ?_
  refine z_iload_n dL_law_261 rfl rfl ?_
  refine z_iconst dL_law_262 kc_1 ?_
  refine z_iadd dL_law_263 ?_
  obtain ⟨g11, hf⟩ := z_g_el hf
  refine z_sald g11 dL_law_264 ?_
  obtain ⟨q12, hq12, hf⟩ := z_b_el hf
  refine y_cVi (av := [.int (G.2.2.2.2.2.2 (p3 + (1 : Int32)).toNatClampNeg)]) (Nat.le_trans (Nat.le_of_ble_eq_true rfl) hd) (wX12_ears (z_dl rfl hd) hq12) oX12_ears lmL_18 iX12_ears z_ob0 rfl _ rfl rfl (Nat.le_of_ble_eq_true rfl) dL_law_265 ?_
  refine z_aload_n dL_law_268 rfl rfl (by decide) ?_
  refine z_aload_n dL_law_269 rfl rfl (by decide) ?_
  refine z_iload_n dL_law_270 rfl rfl ?_
  refine z_iconst dL_law_271 kc_1 ?_
  refine z_iadd dL_law_272 ?_
  refine z_sald g11 dL_law_273 ?_
  obtain ⟨q13, hq13, hf⟩ := z_b_el hf
  refine y_cVi (av := [.int (G.2.2.2.2.2.2 (p3 + (1 : Int32)).toNatClampNeg)]) (Nat.le_trans (Nat.le_of_ble_eq_true rfl) hd) (wX13_ears (z_dl rfl hd) hq13) oX13_ears lmL_22 iX13_ears z_ob102 rfl _ rfl rfl (Nat.le_of_ble_eq_true rfl) dL_law_274 ?_
  refine z_icmp_eq (tgt := 1317) dL_law_277 (by decide) (fun c14 => ?_) (fun c14 => ?_)
  · have hf := z_if_t hf c14
    refine y_iinc (fun t15 => [some (.ref 100000), some (.ref 0), some (.ref 102), some (.int t15)]) dL_law_1317 rfl kc_6 (by decide) (fun _ => rfl) (fun t15 et15 => ?_)
    have hf := z_l_el hf et15
    refine z_goto (tgt := 18) dL_law_1320 (by decide) ?_
    cases hf
    exact hk
  · have hf := z_if_f hf c14
    refine z_iconst dL_law_280 kc_0 ?_
    cases hf
    exact z_iret (hk _) ⟨_, rfl, rfl⟩ dL_law_281
def fL_c2 (xs : Nat → Int32) (L : Nat) (p3 : Int32) (I : Nat → Nat → Int32) (R : Nat → Nat → Nat) : Option ((Int32 × (Nat → Nat → Int32) × (Nat → Nat → Nat)) ⊕ Int32) :=
  z_g (¬ ((p3 + (1 : Int32)) < 0 ∨ L ≤ (p3 + (1 : Int32)).toNatClampNeg)) (z_b (fX12_tempo 0 (xs (p3 + (1 : Int32)).toNatClampNeg) I R) (fun q17 => z_b (fX13_tempo 102 (xs (p3 + (1 : Int32)).toNatClampNeg) q17.2) (fun q18 => if q17.1 = q18.1 then (z_l (p3 + (6 : Int32)) (fun t20 => some (.inl (t20, q18.2, R)))) else (some (.inr (0 : Int32))))))
set_option maxRecDepth 20000 in
theorem wL_c2 {G : z_G} {d : Nat} {Q : Option Value → z_S → z_H → Prop} {p3 : Int32} {I : Nat → Nat → Int32} {R : Nat → Nat → Nat} {o : (Int32 × (Nat → Nat → Int32) × (Nat → Nat → Nat)) ⊕ Int32} (hd : 68 ≤ d) (hf : fL_c2 G.2.2.2.2.2.2 G.2.2.2.2.2.1 p3 I R = some o) (hk : z_or (fun s : Int32 × (Nat → Nat → Int32) × (Nat → Nat → Nat) => z_W G eL_law d 0 0 18 [some (.ref 100000), some (.ref 0), some (.ref 102), some (.int s.1)] [] z_SH (s.2.1, s.2.2) Q) (fun v : Int32 => ∀ h, Q (some (.int v)) z_SH h) o) : z_W G eL_law d 0 0 282 [some (.ref 100000), some (.ref 0), some (.ref 102), some (.int p3)] [] z_SH (I, R) Q := by
  unfold fL_c2 at hf
  refine z_aload_n dL_law_282 rfl rfl (by decide) ?_
  refine z_aload_n dL_law_283 rfl rfl (by decide) ?_
  refine z_iload_n dL_law_284 rfl rfl ?_
  refine z_iconst dL_law_285 kc_1 ?_
  refine z_iadd dL_law_286 ?_
  obtain ⟨g16, hf⟩ := z_g_el hf
  refine z_sald g16 dL_law_287 ?_
  obtain ⟨q17, hq17, hf⟩ := z_b_el hf
  refine y_cVi (av := [.int (G.2.2.2.2.2.2 (p3 + (1 : Int32)).toNatClampNeg)]) (Nat.le_trans (Nat.le_of_ble_eq_true rfl) hd) (wX12_tempo (z_dl rfl hd) hq17) oX12_tempo lmL_23 iX12_tempo z_ob0 rfl _ rfl rfl (Nat.le_of_ble_eq_true rfl) dL_law_288 ?_
  refine z_aload_n dL_law_291 rfl rfl (by decide) ?_
  refine z_aload_n dL_law_292 rfl rfl (by decide) ?_
  refine z_iload_n dL_law_293 rfl rfl ?_
  refine z_iconst dL_law_294 kc_1 ?_
  refine z_iadd dL_law_295 ?_
  refine z_sald g16 dL_law_296 ?_
  obtain ⟨q18, hq18, hf⟩ := z_b_el hf
  refine y_cVi (av := [.int (G.2.2.2.2.2.2 (p3 + (1 : Int32)).toNatClampNeg)]) (Nat.le_trans (Nat.le_of_ble_eq_true rfl) hd) (wX13_tempo (z_dl rfl hd) hq18) oX13_tempo lmL_26 iX13_tempo z_ob102 rfl _ rfl rfl (Nat.le_of_ble_eq_true rfl) dL_law_297 ?_
  refine z_icmp_eq (tgt := 1317) dL_law_300 (by decide) (fun c19 => ?_) (fun c19 => ?_)
  · have hf := z_if_t hf c19
    refine y_iinc (fun t20 => [some (.ref 100000), some (.ref 0), some (.ref 102), some (.int t20)]) dL_law_1317 rfl kc_6 (by decide) (fun _ => rfl) (fun t20 et20 => ?_)
    have hf := z_l_el hf et20
    refine z_goto (tgt := 18) dL_law_1320 (by decide) ?_
    cases hf
    exact hk
  · have hf := z_if_f hf c19
    refine z_iconst dL_law_303 kc_0 ?_
    cases hf
    exact z_iret (hk _) ⟨_, rfl, rfl⟩ dL_law_304
def fL_c3 (xs : Nat → Int32) (L : Nat) (p3 : Int32) (I : Nat → Nat → Int32) (R : Nat → Nat → Nat) : Option ((Int32 × (Nat → Nat → Int32) × (Nat → Nat → Nat)) ⊕ Int32) :=
  z_b (fX12_anew 0 I R) (fun q21 => z_b (fX13_anew 102 q21.2 R) (fun q22 => if q21.1 = q22.1 then (z_l (p3 + (6 : Int32)) (fun t24 => some (.inl (t24, q22.2, R)))) else (some (.inr (0 : Int32)))))
set_option maxRecDepth 20000 in
theorem wL_c3 {G : z_G} {d : Nat} {Q : Option Value → z_S → z_H → Prop} {p3 : Int32} {I : Nat → Nat → Int32} {R : Nat → Nat → Nat} {o : (Int32 × (Nat → Nat → Int32) × (Nat → Nat → Nat)) ⊕ Int32} (hd : 68 ≤ d) (hf : fL_c3 G.2.2.2.2.2.2 G.2.2.2.2.2.1 p3 I R = some o) (hk : z_or (fun s : Int32 × (Nat → Nat → Int32) × (Nat → Nat → Nat) => z_W G eL_law d 0 0 18 [some (.ref 100000), some (.ref 0), some (.ref 102), some (.int s.1)] [] z_SH (s.2.1, s.2.2) Q) (fun v : Int32 => ∀ h, Q (some (.int v)) z_SH h) o) : z_W G eL_law d 0 0 305 [some (.ref 100000), some (.ref 0), some (.ref 102), some (.int p3)] [] z_SH (I, R) Q := by
  unfold fL_c3 at hf
  refine z_aload_n dL_law_305 rfl rfl (by decide) ?_
  obtain ⟨q21, hq21, hf⟩ := z_b_el hf
  refine y_cVi (av := []) (Nat.le_trans (Nat.le_of_ble_eq_true rfl) hd) (wX12_anew (z_dl rfl hd) hq21) oX12_anew lmL_27 iX12_anew z_ob0 rfl _ rfl rfl (Nat.le_of_ble_eq_true rfl) dL_law_306 ?_
  refine z_aload_n dL_law_309 rfl rfl (by decide) ?_
  obtain ⟨q22, hq22, hf⟩ := z_b_el hf
  refine y_cVi (av := []) (Nat.le_trans (Nat.le_of_ble_eq_true rfl) hd) (wX13_anew (z_dl rfl hd) hq22) oX13_anew lmL_31 iX13_anew z_ob102 rfl _ rfl rfl (Nat.le_of_ble_eq_true rfl) dL_law_310 ?_
  refine z_icmp_eq (tgt := 1317) dL_law_313 (by decide) (fun c23 => ?_) (fun c23 => ?_)
  · have hf := z_if_t hf c23
    refine y_iinc (fun t24 => [some (.ref 100000), some (.ref 0), some (.ref 102), some (.int t24)]) dL_law_1317 rfl kc_6 (by decide) (fun _ => rfl) (fun t24 et24 => ?_)
    have hf := z_l_el hf et24
    refine z_goto (tgt := 18) dL_law_1320 (by decide) ?_
    cases hf
    exact hk
  · have hf := z_if_f hf c23
    refine z_iconst dL_law_316 kc_0 ?_
    cases hf
    exact z_iret (hk _) ⟨_, rfl, rfl⟩ dL_law_317
def fL_c4 (xs : Nat → Int32) (L : Nat) (p3 : Int32) (I : Nat → Nat → Int32) (R : Nat → Nat → Nat) : Option ((Int32 × (Nat → Nat → Int32) × (Nat → Nat → Nat)) ⊕ Int32) :=
  z_g (¬ ((p3 + (1 : Int32)) < 0 ∨ L ≤ (p3 + (1 : Int32)).toNatClampNeg)) (z_g (¬ ((p3 + (2 : Int32)) < 0 ∨ L ≤ (p3 + (2 : Int32)).toNatClampNeg)) (z_g (¬ ((p3 + (3 : Int32)) < 0 ∨ L ≤ (p3 + (3 : Int32)).toNatClampNeg)) (z_g (¬ ((p3 + (4 : Int32)) < 0 ∨ L ≤ (p3 + (4 : Int32)).toNatClampNeg)) (z_g (¬ ((p3 + (5 : Int32)) < 0 ∨ L ≤ (p3 + (5 : Int32)).toNatClampNeg)) (z_b (fX12_feed 0 (xs (p3 + (1 : Int32)).toNatClampNeg) (xs (p3 + (2 : Int32)).toNatClampNeg) (xs (p3 + (3 : Int32)).toNatClampNeg) (xs (p3 + (4 : Int32)).toNatClampNeg) (xs (p3 + (5 : Int32)).toNatClampNeg) I R) (fun q30 => z_b (fX13_feed 102 (xs (p3 + (1 : Int32)).toNatClampNeg) (xs (p3 + (2 : Int32)).toNatClampNeg) (xs (p3 + (3 : Int32)).toNatClampNeg) (xs (p3 + (4 : Int32)).toNatClampNeg) (xs (p3 + (5 : Int32)).toNatClampNeg) q30.2 R) (fun q31 => if q30.1 = q31.1 then (z_l (p3 + (6 : Int32)) (fun t33 => some (.inl (t33, q31.2, R)))) else (some (.inr (0 : Int32))))))))))
set_option maxRecDepth 20000 in
theorem wL_c4 {G : z_G} {d : Nat} {Q : Option Value → z_S → z_H → Prop} {p3 : Int32} {I : Nat → Nat → Int32} {R : Nat → Nat → Nat} {o : (Int32 × (Nat → Nat → Int32) × (Nat → Nat → Nat)) ⊕ Int32} (hd : 68 ≤ d) (hf : fL_c4 G.2.2.2.2.2.2 G.2.2.2.2.2.1 p3 I R = some o) (hk : z_or (fun s : Int32 × (Nat → Nat → Int32) × (Nat → Nat → Nat) => z_W G eL_law d 0 0 18 [some (.ref 100000), some (.ref 0), some (.ref 102), some (.int s.1)] [] z_SH (s.2.1, s.2.2) Q) (fun v : Int32 => ∀ h, Q (some (.int v)) z_SH h) o) : z_W G eL_law d 0 0 318 [some (.ref 100000), some (.ref 0), some (.ref 102), some (.int p3)] [] z_SH (I, R) Q := by
  unfold fL_c4 at hf
  refine z_aload_n dL_law_318 rfl rfl (by decide) ?_
  refine z_aload_n dL_law_319 rfl rfl (by decide) ?_
  refine z_iload_n dL_law_320 rfl rfl ?_
  refine z_iconst dL_law_321 kc_1 ?_
  refine z_iadd dL_law_322 ?_
  obtain ⟨g25, hf⟩ := z_g_el hf
  refine z_sald g25 dL_law_323 ?_
  refine z_aload_n dL_law_324 rfl rfl (by decide) ?_
  refine z_iload_n dL_law_325 rfl rfl ?_
  refine z_iconst dL_law_326 kc_2 ?_
  refine z_iadd dL_law_327 ?_
  obtain ⟨g26, hf⟩ := z_g_el hf
  refine z_sald g26 dL_law_328 ?_
  refine z_aload_n dL_law_329 rfl rfl (by decide) ?_
  refine z_iload_n dL_law_330 rfl rfl ?_
  refine z_iconst dL_law_331 kc_3 ?_
  refine z_iadd dL_law_332 ?_
  obtain ⟨g27, hf⟩ := z_g_el hf
  refine z_sald g27 dL_law_333 ?_
  refine z_aload_n dL_law_334 rfl rfl (by decide) ?_
  refine z_iload_n dL_law_335 rfl rfl ?_
  refine z_iconst dL_law_336 kc_4 ?_
  refine z_iadd dL_law_337 ?_
  obtain ⟨g28, hf⟩ := z_g_el hf
  refine z_sald g28 dL_law_338 ?_
  refine z_aload_n dL_law_339 rfl rfl (by decide) ?_
  refine z_iload_n dL_law_340 rfl rfl ?_
  refine z_iconst dL_law_341 kc_5 ?_
  refine z_iadd dL_law_342 ?_
  obtain ⟨g29, hf⟩ := z_g_el hf
  refine z_sald g29 dL_law_343 ?_
  obtain ⟨q30, hq30, hf⟩ := z_b_el hf
  refine y_cVi (av := [.int (G.2.2.2.2.2.2 (p3 + (1 : Int32)).toNatClampNeg), .int (G.2.2.2.2.2.2 (p3 + (2 : Int32)).toNatClampNeg), .int (G.2.2.2.2.2.2 (p3 + (3 : Int32)).toNatClampNeg), .int (G.2.2.2.2.2.2 (p3 + (4 : Int32)).toNatClampNeg), .int (G.2.2.2.2.2.2 (p3 + (5 : Int32)).toNatClampNeg)]) (Nat.le_trans (Nat.le_of_ble_eq_true rfl) hd) (wX12_feed (z_dl rfl hd) hq30) oX12_feed lmL_32 iX12_feed z_ob0 rfl _ rfl rfl (Nat.le_of_ble_eq_true rfl) dL_law_344 ?_
  refine z_aload_n dL_law_347 rfl rfl (by decide) ?_
  refine z_aload_n dL_law_348 rfl rfl (by decide) ?_
  refine z_iload_n dL_law_349 rfl rfl ?_
  refine z_iconst dL_law_350 kc_1 ?_
  refine z_iadd dL_law_351 ?_
  refine z_sald g25 dL_law_352 ?_
  refine z_aload_n dL_law_353 rfl rfl (by decide) ?_
  refine z_iload_n dL_law_354 rfl rfl ?_
  refine z_iconst dL_law_355 kc_2 ?_
  refine z_iadd dL_law_356 ?_
  refine z_sald g26 dL_law_357 ?_
  refine z_aload_n dL_law_358 rfl rfl (by decide) ?_
  refine z_iload_n dL_law_359 rfl rfl ?_
  refine z_iconst dL_law_360 kc_3 ?_
  refine z_iadd dL_law_361 ?_
  refine z_sald g27 dL_law_362 ?_
  refine z_aload_n dL_law_363 rfl rfl (by decide) ?_
  refine z_iload_n dL_law_364 rfl rfl ?_
  refine z_iconst dL_law_365 kc_4 ?_
  refine z_iadd dL_law_366 ?_
  refine z_sald g28 dL_law_367 ?_
  refine z_aload_n dL_law_368 rfl rfl (by decide) ?_
  refine z_iload_n dL_law_369 rfl rfl ?_
  refine z_iconst dL_law_370 kc_5 ?_
  refine z_iadd dL_law_371 ?_
  refine z_sald g29 dL_law_372 ?_
  obtain ⟨q31, hq31, hf⟩ := z_b_el hf
  refine y_cVi (av := [.int (G.2.2.2.2.2.2 (p3 + (1 : Int32)).toNatClampNeg), .int (G.2.2.2.2.2.2 (p3 + (2 : Int32)).toNatClampNeg), .int (G.2.2.2.2.2.2 (p3 + (3 : Int32)).toNatClampNeg), .int (G.2.2.2.2.2.2 (p3 + (4 : Int32)).toNatClampNeg), .int (G.2.2.2.2.2.2 (p3 + (5 : Int32)).toNatClampNeg)]) (Nat.le_trans (Nat.le_of_ble_eq_true rfl) hd) (wX13_feed (z_dl rfl hd) hq31) oX13_feed lmL_36 iX13_feed z_ob102 rfl _ rfl rfl (Nat.le_of_ble_eq_true rfl) dL_law_373 ?_
  refine z_icmp_eq (tgt := 1317) dL_law_376 (by decide) (fun c32 => ?_) (fun c32 => ?_)
  · have hf := z_if_t hf c32
    refine y_iinc (fun t33 => [some (.ref 100000), some (.ref 0), some (.ref 102), some (.int t33)]) dL_law_1317 rfl kc_6 (by decide) (fun _ => rfl) (fun t33 et33 => ?_)
    have hf := z_l_el hf et33
    refine z_goto (tgt := 18) dL_law_1320 (by decide) ?_
    cases hf
    exact hk
  · have hf := z_if_f hf c32
    refine z_iconst dL_law_379 kc_0 ?_
    cases hf
    exact z_iret (hk _) ⟨_, rfl, rfl⟩ dL_law_380
def fL_c5 (xs : Nat → Int32) (L : Nat) (p3 : Int32) (I : Nat → Nat → Int32) (R : Nat → Nat → Nat) : Option ((Int32 × (Nat → Nat → Int32) × (Nat → Nat → Nat)) ⊕ Int32) :=
  z_g (¬ ((p3 + (1 : Int32)) < 0 ∨ L ≤ (p3 + (1 : Int32)).toNatClampNeg)) (z_b (fX12_law 0 (xs (p3 + (1 : Int32)).toNatClampNeg) I R) (fun q35 => z_b (fX13_law 102 (xs (p3 + (1 : Int32)).toNatClampNeg) q35.2.1 q35.2.2) (fun q36 => if q35.1 = q36.1 then (z_l (p3 + (6 : Int32)) (fun t38 => some (.inl (t38, q36.2, q35.2.2)))) else (some (.inr (0 : Int32))))))
set_option maxRecDepth 20000 in
theorem wL_c5 {G : z_G} {d : Nat} {Q : Option Value → z_S → z_H → Prop} {p3 : Int32} {I : Nat → Nat → Int32} {R : Nat → Nat → Nat} {o : (Int32 × (Nat → Nat → Int32) × (Nat → Nat → Nat)) ⊕ Int32} (hd : 68 ≤ d) (hf : fL_c5 G.2.2.2.2.2.2 G.2.2.2.2.2.1 p3 I R = some o) (hk : z_or (fun s : Int32 × (Nat → Nat → Int32) × (Nat → Nat → Nat) => z_W G eL_law d 0 0 18 [some (.ref 100000), some (.ref 0), some (.ref 102), some (.int s.1)] [] z_SH (s.2.1, s.2.2) Q) (fun v : Int32 => ∀ h, Q (some (.int v)) z_SH h) o) : z_W G eL_law d 0 0 381 [some (.ref 100000), some (.ref 0), some (.ref 102), some (.int p3)] [] z_SH (I, R) Q := by
  unfold fL_c5 at hf
  refine z_aload_n dL_law_381 rfl rfl (by decide) ?_
  refine z_aload_n dL_law_382 rfl rfl (by decide) ?_
  refine z_iload_n dL_law_383 rfl rfl ?_
  refine z_iconst dL_law_384 kc_1 ?_
  refine z_iadd dL_law_385 ?_
  obtain ⟨g34, hf⟩ := z_g_el hf
  refine z_sald g34 dL_law_386 ?_
  obtain ⟨q35, hq35, hf⟩ := z_b_el hf
  refine y_cVi (av := [.int (G.2.2.2.2.2.2 (p3 + (1 : Int32)).toNatClampNeg)]) (Nat.le_trans (Nat.le_of_ble_eq_true rfl) hd) (wX12_law (z_dl rfl hd) hq35) oX12_law lmL_37 iX12_law z_ob0 rfl _ rfl rfl (Nat.le_of_ble_eq_true rfl) dL_law_387 ?_
  refine z_aload_n dL_law_390 rfl rfl (by decide) ?_
  refine z_aload_n dL_law_391 rfl rfl (by decide) ?_
  refine z_iload_n dL_law_392 rfl rfl ?_
  refine z_iconst dL_law_393 kc_1 ?_
  refine z_iadd dL_law_394 ?_
  refine z_sald g34 dL_law_395 ?_
  obtain ⟨q36, hq36, hf⟩ := z_b_el hf
  refine y_cVi (av := [.int (G.2.2.2.2.2.2 (p3 + (1 : Int32)).toNatClampNeg)]) (Nat.le_trans (Nat.le_of_ble_eq_true rfl) hd) (wX13_law (z_dl rfl hd) hq36) oX13_law lmL_41 iX13_law z_ob102 rfl _ rfl rfl (Nat.le_of_ble_eq_true rfl) dL_law_396 ?_
  refine z_icmp_eq (tgt := 1317) dL_law_399 (by decide) (fun c37 => ?_) (fun c37 => ?_)
  · have hf := z_if_t hf c37
    refine y_iinc (fun t38 => [some (.ref 100000), some (.ref 0), some (.ref 102), some (.int t38)]) dL_law_1317 rfl kc_6 (by decide) (fun _ => rfl) (fun t38 et38 => ?_)
    have hf := z_l_el hf et38
    refine z_goto (tgt := 18) dL_law_1320 (by decide) ?_
    cases hf
    exact hk
  · have hf := z_if_f hf c37
    refine z_iconst dL_law_402 kc_0 ?_
    cases hf
    exact z_iret (hk _) ⟨_, rfl, rfl⟩ dL_law_403
def fL_c6 (xs : Nat → Int32) (L : Nat) (p3 : Int32) (I : Nat → Nat → Int32) (R : Nat → Nat → Nat) : Option ((Int32 × (Nat → Nat → Int32) × (Nat → Nat → Nat)) ⊕ Int32) :=
  z_g (¬ ((p3 + (1 : Int32)) < 0 ∨ L ≤ (p3 + (1 : Int32)).toNatClampNeg)) (z_g (¬ ((p3 + (2 : Int32)) < 0 ∨ L ≤ (p3 + (2 : Int32)).toNatClampNeg)) (z_b (fX12_roll 0 (xs (p3 + (1 : Int32)).toNatClampNeg) (xs (p3 + (2 : Int32)).toNatClampNeg) I R) (fun q41 => z_b (fX13_roll 102 (xs (p3 + (1 : Int32)).toNatClampNeg) (xs (p3 + (2 : Int32)).toNatClampNeg) q41.2.1 q41.2.2) (fun q42 => if q41.1 = q42.1 then (z_l (p3 + (6 : Int32)) (fun t44 => some (.inl (t44, q42.2, q41.2.2)))) else (some (.inr (0 : Int32)))))))
set_option maxRecDepth 20000 in
theorem wL_c6 {G : z_G} {d : Nat} {Q : Option Value → z_S → z_H → Prop} {p3 : Int32} {I : Nat → Nat → Int32} {R : Nat → Nat → Nat} {o : (Int32 × (Nat → Nat → Int32) × (Nat → Nat → Nat)) ⊕ Int32} (hd : 68 ≤ d) (hf : fL_c6 G.2.2.2.2.2.2 G.2.2.2.2.2.1 p3 I R = some o) (hk : z_or (fun s : Int32 × (Nat → Nat → Int32) × (Nat → Nat → Nat) => z_W G eL_law d 0 0 18 [some (.ref 100000), some (.ref 0), some (.ref 102), some (.int s.1)] [] z_SH (s.2.1, s.2.2) Q) (fun v : Int32 => ∀ h, Q (some (.int v)) z_SH h) o) : z_W G eL_law d 0 0 404 [some (.ref 100000), some (.ref 0), some (.ref 102), some (.int p3)] [] z_SH (I, R) Q := by
  unfold fL_c6 at hf
  refine z_aload_n dL_law_404 rfl rfl (by decide) ?_
  refine z_aload_n dL_law_405 rfl rfl (by decide) ?_
  refine z_iload_n dL_law_406 rfl rfl ?_
  refine z_iconst dL_law_407 kc_1 ?_
  refine z_iadd dL_law_408 ?_
  obtain ⟨g39, hf⟩ := z_g_el hf
  refine z_sald g39 dL_law_409 ?_
  refine z_aload_n dL_law_410 rfl rfl (by decide) ?_
  refine z_iload_n dL_law_411 rfl rfl ?_
  refine z_iconst dL_law_412 kc_2 ?_
  refine z_iadd dL_law_413 ?_
  obtain ⟨g40, hf⟩ := z_g_el hf
  refine z_sald g40 dL_law_414 ?_
  obtain ⟨q41, hq41, hf⟩ := z_b_el hf
  refine y_cVi (av := [.int (G.2.2.2.2.2.2 (p3 + (1 : Int32)).toNatClampNeg), .int (G.2.2.2.2.2.2 (p3 + (2 : Int32)).toNatClampNeg)]) (Nat.le_trans (Nat.le_of_ble_eq_true rfl) hd) (wX12_roll (z_dl rfl hd) hq41) oX12_roll lmL_42 iX12_roll z_ob0 rfl _ rfl rfl (Nat.le_of_ble_eq_true rfl) dL_law_415 ?_
  refine z_aload_n dL_law_418 rfl rfl (by decide) ?_
  refine z_aload_n dL_law_419 rfl rfl (by decide) ?_
  refine z_iload_n dL_law_420 rfl rfl ?_
  refine z_iconst dL_law_421 kc_1 ?_
  refine z_iadd dL_law_422 ?_
  refine z_sald g39 dL_law_423 ?_
  refine z_aload_n dL_law_424 rfl rfl (by decide) ?_
  refine z_iload_n dL_law_425 rfl rfl ?_
  refine z_iconst dL_law_426 kc_2 ?_
  refine z_iadd dL_law_427 ?_
  refine z_sald g40 dL_law_428 ?_
  obtain ⟨q42, hq42, hf⟩ := z_b_el hf
  refine y_cVi (av := [.int (G.2.2.2.2.2.2 (p3 + (1 : Int32)).toNatClampNeg), .int (G.2.2.2.2.2.2 (p3 + (2 : Int32)).toNatClampNeg)]) (Nat.le_trans (Nat.le_of_ble_eq_true rfl) hd) (wX13_roll (z_dl rfl hd) hq42) oX13_roll lmL_46 iX13_roll z_ob102 rfl _ rfl rfl (Nat.le_of_ble_eq_true rfl) dL_law_429 ?_
  refine z_icmp_eq (tgt := 1317) dL_law_432 (by decide) (fun c43 => ?_) (fun c43 => ?_)
  · have hf := z_if_t hf c43
    refine y_iinc (fun t44 => [some (.ref 100000), some (.ref 0), some (.ref 102), some (.int t44)]) dL_law_1317 rfl kc_6 (by decide) (fun _ => rfl) (fun t44 et44 => ?_)
    have hf := z_l_el hf et44
    refine z_goto (tgt := 18) dL_law_1320 (by decide) ?_
    cases hf
    exact hk
  · have hf := z_if_f hf c43
    refine z_iconst dL_law_435 kc_0 ?_
    cases hf
    exact z_iret (hk _) ⟨_, rfl, rfl⟩ dL_law_436
def fL_c7 (xs : Nat → Int32) (L : Nat) (p3 : Int32) (I : Nat → Nat → Int32) (R : Nat → Nat → Nat) : Option ((Int32 × (Nat → Nat → Int32) × (Nat → Nat → Nat)) ⊕ Int32) :=
  z_g (¬ ((p3 + (1 : Int32)) < 0 ∨ L ≤ (p3 + (1 : Int32)).toNatClampNeg)) (z_b (fX12_ticks 0 (xs (p3 + (1 : Int32)).toNatClampNeg) I R) (fun q46 => z_b (fX13_ticks 102 (xs (p3 + (1 : Int32)).toNatClampNeg) q46.2 R) (fun q47 => if q46.1 = q47.1 then (z_l (p3 + (6 : Int32)) (fun t49 => some (.inl (t49, q47.2, R)))) else (some (.inr (0 : Int32))))))
set_option maxRecDepth 20000 in
theorem wL_c7 {G : z_G} {d : Nat} {Q : Option Value → z_S → z_H → Prop} {p3 : Int32} {I : Nat → Nat → Int32} {R : Nat → Nat → Nat} {o : (Int32 × (Nat → Nat → Int32) × (Nat → Nat → Nat)) ⊕ Int32} (hd : 68 ≤ d) (hf : fL_c7 G.2.2.2.2.2.2 G.2.2.2.2.2.1 p3 I R = some o) (hk : z_or (fun s : Int32 × (Nat → Nat → Int32) × (Nat → Nat → Nat) => z_W G eL_law d 0 0 18 [some (.ref 100000), some (.ref 0), some (.ref 102), some (.int s.1)] [] z_SH (s.2.1, s.2.2) Q) (fun v : Int32 => ∀ h, Q (some (.int v)) z_SH h) o) : z_W G eL_law d 0 0 437 [some (.ref 100000), some (.ref 0), some (.ref 102), some (.int p3)] [] z_SH (I, R) Q := by
  unfold fL_c7 at hf
  refine z_aload_n dL_law_437 rfl rfl (by decide) ?_
  refine z_aload_n dL_law_438 rfl rfl (by decide) ?_
  refine z_iload_n dL_law_439 rfl rfl ?_
  refine z_iconst dL_law_440 kc_1 ?_
  refine z_iadd dL_law_441 ?_
  obtain ⟨g45, hf⟩ := z_g_el hf
  refine z_sald g45 dL_law_442 ?_
  obtain ⟨q46, hq46, hf⟩ := z_b_el hf
  refine y_cVi (av := [.int (G.2.2.2.2.2.2 (p3 + (1 : Int32)).toNatClampNeg)]) (Nat.le_trans (Nat.le_of_ble_eq_true rfl) hd) (wX12_ticks (z_dl rfl hd) hq46) oX12_ticks lmL_47 iX12_ticks z_ob0 rfl _ rfl rfl (Nat.le_of_ble_eq_true rfl) dL_law_443 ?_
  refine z_aload_n dL_law_446 rfl rfl (by decide) ?_
  refine z_aload_n dL_law_447 rfl rfl (by decide) ?_
  refine z_iload_n dL_law_448 rfl rfl ?_
  refine z_iconst dL_law_449 kc_1 ?_
  refine z_iadd dL_law_450 ?_
  refine z_sald g45 dL_law_451 ?_
  obtain ⟨q47, hq47, hf⟩ := z_b_el hf
  refine y_cVi (av := [.int (G.2.2.2.2.2.2 (p3 + (1 : Int32)).toNatClampNeg)]) (Nat.le_trans (Nat.le_of_ble_eq_true rfl) hd) (wX13_ticks (z_dl rfl hd) hq47) oX13_ticks lmL_50 iX13_ticks z_ob102 rfl _ rfl rfl (Nat.le_of_ble_eq_true rfl) dL_law_452 ?_
  refine z_icmp_eq (tgt := 1317) dL_law_455 (by decide) (fun c48 => ?_) (fun c48 => ?_)
  · have hf := z_if_t hf c48
    refine y_iinc (fun t49 => [some (.ref 100000), some (.ref 0), some (.ref 102), some (.int t49)]) dL_law_1317 rfl kc_6 (by decide) (fun _ => rfl) (fun t49 et49 => ?_)
    have hf := z_l_el hf et49
    refine z_goto (tgt := 18) dL_law_1320 (by decide) ?_
    cases hf
    exact hk
  · have hf := z_if_f hf c48
    refine z_iconst dL_law_458 kc_0 ?_
    cases hf
    exact z_iret (hk _) ⟨_, rfl, rfl⟩ dL_law_459
def fL_c8 (xs : Nat → Int32) (L : Nat) (p3 : Int32) (I : Nat → Nat → Int32) (R : Nat → Nat → Nat) : Option ((Int32 × (Nat → Nat → Int32) × (Nat → Nat → Nat)) ⊕ Int32) :=
  z_g (¬ ((p3 + (1 : Int32)) < 0 ∨ L ≤ (p3 + (1 : Int32)).toNatClampNeg)) (z_g (¬ ((p3 + (2 : Int32)) < 0 ∨ L ≤ (p3 + (2 : Int32)).toNatClampNeg)) (z_b (fX12_tried 0 (xs (p3 + (1 : Int32)).toNatClampNeg) (xs (p3 + (2 : Int32)).toNatClampNeg) I R) (fun q52 => z_b (fX13_tried 102 (xs (p3 + (1 : Int32)).toNatClampNeg) (xs (p3 + (2 : Int32)).toNatClampNeg) q52.2 R) (fun q53 => if q52.1 = q53.1 then (z_l (p3 + (6 : Int32)) (fun t55 => some (.inl (t55, q53.2, R)))) else (some (.inr (0 : Int32)))))))
set_option maxRecDepth 20000 in
theorem wL_c8 {G : z_G} {d : Nat} {Q : Option Value → z_S → z_H → Prop} {p3 : Int32} {I : Nat → Nat → Int32} {R : Nat → Nat → Nat} {o : (Int32 × (Nat → Nat → Int32) × (Nat → Nat → Nat)) ⊕ Int32} (hd : 68 ≤ d) (hf : fL_c8 G.2.2.2.2.2.2 G.2.2.2.2.2.1 p3 I R = some o) (hk : z_or (fun s : Int32 × (Nat → Nat → Int32) × (Nat → Nat → Nat) => z_W G eL_law d 0 0 18 [some (.ref 100000), some (.ref 0), some (.ref 102), some (.int s.1)] [] z_SH (s.2.1, s.2.2) Q) (fun v : Int32 => ∀ h, Q (some (.int v)) z_SH h) o) : z_W G eL_law d 0 0 460 [some (.ref 100000), some (.ref 0), some (.ref 102), some (.int p3)] [] z_SH (I, R) Q := by
  unfold fL_c8 at hf
  refine z_aload_n dL_law_460 rfl rfl (by decide) ?_
  refine z_aload_n dL_law_461 rfl rfl (by decide) ?_
  refine z_iload_n dL_law_462 rfl rfl ?_
  refine z_iconst dL_law_463 kc_1 ?_
  refine z_iadd dL_law_464 ?_
  obtain ⟨g50, hf⟩ := z_g_el hf
  refine z_sald g50 dL_law_465 ?_
  refine z_aload_n dL_law_466 rfl rfl (by decide) ?_
  refine z_iload_n dL_law_467 rfl rfl ?_
  refine z_iconst dL_law_468 kc_2 ?_
  refine z_iadd dL_law_469 ?_
  obtain ⟨g51, hf⟩ := z_g_el hf
  refine z_sald g51 dL_law_470 ?_
  obtain ⟨q52, hq52, hf⟩ := z_b_el hf
  refine y_cVi (av := [.int (G.2.2.2.2.2.2 (p3 + (1 : Int32)).toNatClampNeg), .int (G.2.2.2.2.2.2 (p3 + (2 : Int32)).toNatClampNeg)]) (Nat.le_trans (Nat.le_of_ble_eq_true rfl) hd) (wX12_tried (z_dl rfl hd) hq52) oX12_tried lmL_51 iX12_tried z_ob0 rfl _ rfl rfl (Nat.le_of_ble_eq_true rfl) dL_law_471 ?_
  refine z_aload_n dL_law_474 rfl rfl (by decide) ?_
  refine z_aload_n dL_law_475 rfl rfl (by decide) ?_
  refine z_iload_n dL_law_476 rfl rfl ?_
  refine z_iconst dL_law_477 kc_1 ?_
  refine z_iadd dL_law_478 ?_
  refine z_sald g50 dL_law_479 ?_
  refine z_aload_n dL_law_480 rfl rfl (by decide) ?_
  refine z_iload_n dL_law_481 rfl rfl ?_
  refine z_iconst dL_law_482 kc_2 ?_
  refine z_iadd dL_law_483 ?_
  refine z_sald g51 dL_law_484 ?_
  obtain ⟨q53, hq53, hf⟩ := z_b_el hf
  refine y_cVi (av := [.int (G.2.2.2.2.2.2 (p3 + (1 : Int32)).toNatClampNeg), .int (G.2.2.2.2.2.2 (p3 + (2 : Int32)).toNatClampNeg)]) (Nat.le_trans (Nat.le_of_ble_eq_true rfl) hd) (wX13_tried (z_dl rfl hd) hq53) oX13_tried lmL_54 iX13_tried z_ob102 rfl _ rfl rfl (Nat.le_of_ble_eq_true rfl) dL_law_485 ?_
  refine z_icmp_eq (tgt := 1317) dL_law_488 (by decide) (fun c54 => ?_) (fun c54 => ?_)
  · have hf := z_if_t hf c54
    refine y_iinc (fun t55 => [some (.ref 100000), some (.ref 0), some (.ref 102), some (.int t55)]) dL_law_1317 rfl kc_6 (by decide) (fun _ => rfl) (fun t55 et55 => ?_)
    have hf := z_l_el hf et55
    refine z_goto (tgt := 18) dL_law_1320 (by decide) ?_
    cases hf
    exact hk
  · have hf := z_if_f hf c54
    refine z_iconst dL_law_491 kc_0 ?_
    cases hf
    exact z_iret (hk _) ⟨_, rfl, rfl⟩ dL_law_492
def fL_c9 (xs : Nat → Int32) (L : Nat) (p3 : Int32) (I : Nat → Nat → Int32) (R : Nat → Nat → Nat) : Option ((Int32 × (Nat → Nat → Int32) × (Nat → Nat → Nat)) ⊕ Int32) :=
  z_g (¬ ((p3 + (1 : Int32)) < 0 ∨ L ≤ (p3 + (1 : Int32)).toNatClampNeg)) (z_g (¬ ((p3 + (2 : Int32)) < 0 ∨ L ≤ (p3 + (2 : Int32)).toNatClampNeg)) (z_b (fX12_singerIs 0 (xs (p3 + (1 : Int32)).toNatClampNeg) (xs (p3 + (2 : Int32)).toNatClampNeg) I R) (fun q58 => z_b (fX13_singerIs 102 (xs (p3 + (1 : Int32)).toNatClampNeg) (xs (p3 + (2 : Int32)).toNatClampNeg) I R) (fun q59 => if q58 = q59 then (z_l (p3 + (6 : Int32)) (fun t61 => some (.inl (t61, I, R)))) else (some (.inr (0 : Int32)))))))
set_option maxRecDepth 20000 in
theorem wL_c9 {G : z_G} {d : Nat} {Q : Option Value → z_S → z_H → Prop} {p3 : Int32} {I : Nat → Nat → Int32} {R : Nat → Nat → Nat} {o : (Int32 × (Nat → Nat → Int32) × (Nat → Nat → Nat)) ⊕ Int32} (hd : 68 ≤ d) (hf : fL_c9 G.2.2.2.2.2.2 G.2.2.2.2.2.1 p3 I R = some o) (hk : z_or (fun s : Int32 × (Nat → Nat → Int32) × (Nat → Nat → Nat) => z_W G eL_law d 0 0 18 [some (.ref 100000), some (.ref 0), some (.ref 102), some (.int s.1)] [] z_SH (s.2.1, s.2.2) Q) (fun v : Int32 => ∀ h, Q (some (.int v)) z_SH h) o) : z_W G eL_law d 0 0 493 [some (.ref 100000), some (.ref 0), some (.ref 102), some (.int p3)] [] z_SH (I, R) Q := by
  unfold fL_c9 at hf
  refine z_aload_n dL_law_493 rfl rfl (by decide) ?_
  refine z_aload_n dL_law_494 rfl rfl (by decide) ?_
  refine z_iload_n dL_law_495 rfl rfl ?_
  refine z_iconst dL_law_496 kc_1 ?_
  refine z_iadd dL_law_497 ?_
  obtain ⟨g56, hf⟩ := z_g_el hf
  refine z_sald g56 dL_law_498 ?_
  refine z_aload_n dL_law_499 rfl rfl (by decide) ?_
  refine z_iload_n dL_law_500 rfl rfl ?_
  refine z_iconst dL_law_501 kc_2 ?_
  refine z_iadd dL_law_502 ?_
  obtain ⟨g57, hf⟩ := z_g_el hf
  refine z_sald g57 dL_law_503 ?_
  obtain ⟨q58, hq58, hf⟩ := z_b_el hf
  refine y_cVi (av := [.int (G.2.2.2.2.2.2 (p3 + (1 : Int32)).toNatClampNeg), .int (G.2.2.2.2.2.2 (p3 + (2 : Int32)).toNatClampNeg)]) (Nat.le_trans (Nat.le_of_ble_eq_true rfl) hd) (wX12_singerIs (z_dl rfl hd) hq58) oX12_singerIs lmL_55 iX12_singerIs z_ob0 rfl _ rfl rfl (Nat.le_of_ble_eq_true rfl) dL_law_504 ?_
  refine z_aload_n dL_law_507 rfl rfl (by decide) ?_
  refine z_aload_n dL_law_508 rfl rfl (by decide) ?_
  refine z_iload_n dL_law_509 rfl rfl ?_
  refine z_iconst dL_law_510 kc_1 ?_
  refine z_iadd dL_law_511 ?_
  refine z_sald g56 dL_law_512 ?_
  refine z_aload_n dL_law_513 rfl rfl (by decide) ?_
  refine z_iload_n dL_law_514 rfl rfl ?_
  refine z_iconst dL_law_515 kc_2 ?_
  refine z_iadd dL_law_516 ?_
  refine z_sald g57 dL_law_517 ?_
  obtain ⟨q59, hq59, hf⟩ := z_b_el hf
  refine y_cVi (av := [.int (G.2.2.2.2.2.2 (p3 + (1 : Int32)).toNatClampNeg), .int (G.2.2.2.2.2.2 (p3 + (2 : Int32)).toNatClampNeg)]) (Nat.le_trans (Nat.le_of_ble_eq_true rfl) hd) (wX13_singerIs (z_dl rfl hd) hq59) oX13_singerIs lmL_58 iX13_singerIs z_ob102 rfl _ rfl rfl (Nat.le_of_ble_eq_true rfl) dL_law_518 ?_
  refine z_icmp_eq (tgt := 1317) dL_law_521 (by decide) (fun c60 => ?_) (fun c60 => ?_)
  · have hf := z_if_t hf c60
    refine y_iinc (fun t61 => [some (.ref 100000), some (.ref 0), some (.ref 102), some (.int t61)]) dL_law_1317 rfl kc_6 (by decide) (fun _ => rfl) (fun t61 et61 => ?_)
    have hf := z_l_el hf et61
    refine z_goto (tgt := 18) dL_law_1320 (by decide) ?_
    cases hf
    exact hk
  · have hf := z_if_f hf c60
    refine z_iconst dL_law_524 kc_0 ?_
    cases hf
    exact z_iret (hk _) ⟨_, rfl, rfl⟩ dL_law_525
def fL_c10 (xs : Nat → Int32) (L : Nat) (p3 : Int32) (I : Nat → Nat → Int32) (R : Nat → Nat → Nat) : Option ((Int32 × (Nat → Nat → Int32) × (Nat → Nat → Nat)) ⊕ Int32) :=
  z_g (¬ ((p3 + (1 : Int32)) < 0 ∨ L ≤ (p3 + (1 : Int32)).toNatClampNeg)) (z_b (fX12_drift 0 (xs (p3 + (1 : Int32)).toNatClampNeg) I R) (fun q63 => z_b (fX13_drift 102 (xs (p3 + (1 : Int32)).toNatClampNeg) I R) (fun q64 => if q63 = q64 then (z_l (p3 + (6 : Int32)) (fun t66 => some (.inl (t66, I, R)))) else (some (.inr (0 : Int32))))))
set_option maxRecDepth 20000 in
theorem wL_c10 {G : z_G} {d : Nat} {Q : Option Value → z_S → z_H → Prop} {p3 : Int32} {I : Nat → Nat → Int32} {R : Nat → Nat → Nat} {o : (Int32 × (Nat → Nat → Int32) × (Nat → Nat → Nat)) ⊕ Int32} (hd : 68 ≤ d) (hf : fL_c10 G.2.2.2.2.2.2 G.2.2.2.2.2.1 p3 I R = some o) (hk : z_or (fun s : Int32 × (Nat → Nat → Int32) × (Nat → Nat → Nat) => z_W G eL_law d 0 0 18 [some (.ref 100000), some (.ref 0), some (.ref 102), some (.int s.1)] [] z_SH (s.2.1, s.2.2) Q) (fun v : Int32 => ∀ h, Q (some (.int v)) z_SH h) o) : z_W G eL_law d 0 0 526 [some (.ref 100000), some (.ref 0), some (.ref 102), some (.int p3)] [] z_SH (I, R) Q := by
  unfold fL_c10 at hf
  refine z_aload_n dL_law_526 rfl rfl (by decide) ?_
  refine z_aload_n dL_law_527 rfl rfl (by decide) ?_
  refine z_iload_n dL_law_528 rfl rfl ?_
  refine z_iconst dL_law_529 kc_1 ?_
  refine z_iadd dL_law_530 ?_
  obtain ⟨g62, hf⟩ := z_g_el hf
  refine z_sald g62 dL_law_531 ?_
  obtain ⟨q63, hq63, hf⟩ := z_b_el hf
  refine y_cVi (av := [.int (G.2.2.2.2.2.2 (p3 + (1 : Int32)).toNatClampNeg)]) (Nat.le_trans (Nat.le_of_ble_eq_true rfl) hd) (wX12_drift (z_dl rfl hd) hq63) oX12_drift lmL_59 iX12_drift z_ob0 rfl _ rfl rfl (Nat.le_of_ble_eq_true rfl) dL_law_532 ?_
  refine z_aload_n dL_law_535 rfl rfl (by decide) ?_
  refine z_aload_n dL_law_536 rfl rfl (by decide) ?_
  refine z_iload_n dL_law_537 rfl rfl ?_
  refine z_iconst dL_law_538 kc_1 ?_
  refine z_iadd dL_law_539 ?_
  refine z_sald g62 dL_law_540 ?_
  obtain ⟨q64, hq64, hf⟩ := z_b_el hf
  refine y_cVi (av := [.int (G.2.2.2.2.2.2 (p3 + (1 : Int32)).toNatClampNeg)]) (Nat.le_trans (Nat.le_of_ble_eq_true rfl) hd) (wX13_drift (z_dl rfl hd) hq64) oX13_drift lmL_62 iX13_drift z_ob102 rfl _ rfl rfl (Nat.le_of_ble_eq_true rfl) dL_law_541 ?_
  refine z_icmp_eq (tgt := 1317) dL_law_544 (by decide) (fun c65 => ?_) (fun c65 => ?_)
  · have hf := z_if_t hf c65
    refine y_iinc (fun t66 => [some (.ref 100000), some (.ref 0), some (.ref 102), some (.int t66)]) dL_law_1317 rfl kc_6 (by decide) (fun _ => rfl) (fun t66 et66 => ?_)
    have hf := z_l_el hf et66
    refine z_goto (tgt := 18) dL_law_1320 (by decide) ?_
    cases hf
    exact hk
  · have hf := z_if_f hf c65
    refine z_iconst dL_law_547 kc_0 ?_
    cases hf
    exact z_iret (hk _) ⟨_, rfl, rfl⟩ dL_law_548
def fL_c11 (xs : Nat → Int32) (L : Nat) (p3 : Int32) (I : Nat → Nat → Int32) (R : Nat → Nat → Nat) : Option ((Int32 × (Nat → Nat → Int32) × (Nat → Nat → Nat)) ⊕ Int32) :=
  z_g (¬ ((p3 + (1 : Int32)) < 0 ∨ L ≤ (p3 + (1 : Int32)).toNatClampNeg)) (z_g (¬ ((p3 + (2 : Int32)) < 0 ∨ L ≤ (p3 + (2 : Int32)).toNatClampNeg)) (z_g (¬ ((p3 + (3 : Int32)) < 0 ∨ L ≤ (p3 + (3 : Int32)).toNatClampNeg)) (z_b (fX12_beat 0 (xs (p3 + (1 : Int32)).toNatClampNeg) (xs (p3 + (2 : Int32)).toNatClampNeg) (xs (p3 + (3 : Int32)).toNatClampNeg) I R) (fun q70 => z_b (fX13_beat 102 (xs (p3 + (1 : Int32)).toNatClampNeg) (xs (p3 + (2 : Int32)).toNatClampNeg) (xs (p3 + (3 : Int32)).toNatClampNeg) I R) (fun q71 => if q70 = q71 then (z_l (p3 + (6 : Int32)) (fun t73 => some (.inl (t73, I, R)))) else (some (.inr (0 : Int32))))))))
set_option maxRecDepth 20000 in
theorem wL_c11 {G : z_G} {d : Nat} {Q : Option Value → z_S → z_H → Prop} {p3 : Int32} {I : Nat → Nat → Int32} {R : Nat → Nat → Nat} {o : (Int32 × (Nat → Nat → Int32) × (Nat → Nat → Nat)) ⊕ Int32} (hd : 68 ≤ d) (hf : fL_c11 G.2.2.2.2.2.2 G.2.2.2.2.2.1 p3 I R = some o) (hk : z_or (fun s : Int32 × (Nat → Nat → Int32) × (Nat → Nat → Nat) => z_W G eL_law d 0 0 18 [some (.ref 100000), some (.ref 0), some (.ref 102), some (.int s.1)] [] z_SH (s.2.1, s.2.2) Q) (fun v : Int32 => ∀ h, Q (some (.int v)) z_SH h) o) : z_W G eL_law d 0 0 549 [some (.ref 100000), some (.ref 0), some (.ref 102), some (.int p3)] [] z_SH (I, R) Q := by
  unfold fL_c11 at hf
  refine z_aload_n dL_law_549 rfl rfl (by decide) ?_
  refine z_aload_n dL_law_550 rfl rfl (by decide) ?_
  refine z_iload_n dL_law_551 rfl rfl ?_
  refine z_iconst dL_law_552 kc_1 ?_
  refine z_iadd dL_law_553 ?_
  obtain ⟨g67, hf⟩ := z_g_el hf
  refine z_sald g67 dL_law_554 ?_
  refine z_aload_n dL_law_555 rfl rfl (by decide) ?_
  refine z_iload_n dL_law_556 rfl rfl ?_
  refine z_iconst dL_law_557 kc_2 ?_
  refine z_iadd dL_law_558 ?_
  obtain ⟨g68, hf⟩ := z_g_el hf
  refine z_sald g68 dL_law_559 ?_
  refine z_aload_n dL_law_560 rfl rfl (by decide) ?_
  refine z_iload_n dL_law_561 rfl rfl ?_
  refine z_iconst dL_law_562 kc_3 ?_
  refine z_iadd dL_law_563 ?_
  obtain ⟨g69, hf⟩ := z_g_el hf
  refine z_sald g69 dL_law_564 ?_
  obtain ⟨q70, hq70, hf⟩ := z_b_el hf
  refine y_cVi (av := [.int (G.2.2.2.2.2.2 (p3 + (1 : Int32)).toNatClampNeg), .int (G.2.2.2.2.2.2 (p3 + (2 : Int32)).toNatClampNeg), .int (G.2.2.2.2.2.2 (p3 + (3 : Int32)).toNatClampNeg)]) (Nat.le_trans (Nat.le_of_ble_eq_true rfl) hd) (wX12_beat (z_dl rfl hd) hq70) oX12_beat lmL_63 iX12_beat z_ob0 rfl _ rfl rfl (Nat.le_of_ble_eq_true rfl) dL_law_565 ?_
  refine z_aload_n dL_law_568 rfl rfl (by decide) ?_
  refine z_aload_n dL_law_569 rfl rfl (by decide) ?_
  refine z_iload_n dL_law_570 rfl rfl ?_
  refine z_iconst dL_law_571 kc_1 ?_
  refine z_iadd dL_law_572 ?_
  refine z_sald g67 dL_law_573 ?_
  refine z_aload_n dL_law_574 rfl rfl (by decide) ?_
  refine z_iload_n dL_law_575 rfl rfl ?_
  refine z_iconst dL_law_576 kc_2 ?_
  refine z_iadd dL_law_577 ?_
  refine z_sald g68 dL_law_578 ?_
  refine z_aload_n dL_law_579 rfl rfl (by decide) ?_
  refine z_iload_n dL_law_580 rfl rfl ?_
  refine z_iconst dL_law_581 kc_3 ?_
  refine z_iadd dL_law_582 ?_
  refine z_sald g69 dL_law_583 ?_
  obtain ⟨q71, hq71, hf⟩ := z_b_el hf
  refine y_cVi (av := [.int (G.2.2.2.2.2.2 (p3 + (1 : Int32)).toNatClampNeg), .int (G.2.2.2.2.2.2 (p3 + (2 : Int32)).toNatClampNeg), .int (G.2.2.2.2.2.2 (p3 + (3 : Int32)).toNatClampNeg)]) (Nat.le_trans (Nat.le_of_ble_eq_true rfl) hd) (wX13_beat (z_dl rfl hd) hq71) oX13_beat lmL_67 iX13_beat z_ob102 rfl _ rfl rfl (Nat.le_of_ble_eq_true rfl) dL_law_584 ?_
  refine z_icmp_eq (tgt := 1317) dL_law_587 (by decide) (fun c72 => ?_) (fun c72 => ?_)
  · have hf := z_if_t hf c72
    refine y_iinc (fun t73 => [some (.ref 100000), some (.ref 0), some (.ref 102), some (.int t73)]) dL_law_1317 rfl kc_6 (by decide) (fun _ => rfl) (fun t73 et73 => ?_)
    have hf := z_l_el hf et73
    refine z_goto (tgt := 18) dL_law_1320 (by decide) ?_
    cases hf
    exact hk
  · have hf := z_if_f hf c72
    refine z_iconst dL_law_590 kc_0 ?_
    cases hf
    exact z_iret (hk _) ⟨_, rfl, rfl⟩ dL_law_591
def fL_c12 (xs : Nat → Int32) (L : Nat) (p3 : Int32) (I : Nat → Nat → Int32) (R : Nat → Nat → Nat) : Option ((Int32 × (Nat → Nat → Int32) × (Nat → Nat → Nat)) ⊕ Int32) :=
  z_g (¬ ((p3 + (1 : Int32)) < 0 ∨ L ≤ (p3 + (1 : Int32)).toNatClampNeg)) (z_g (¬ ((p3 + (2 : Int32)) < 0 ∨ L ≤ (p3 + (2 : Int32)).toNatClampNeg)) (z_b (fX12_end 0 (xs (p3 + (1 : Int32)).toNatClampNeg) (xs (p3 + (2 : Int32)).toNatClampNeg) I R) (fun q76 => z_b (fX13_end 102 (xs (p3 + (1 : Int32)).toNatClampNeg) (xs (p3 + (2 : Int32)).toNatClampNeg) q76.2 R) (fun q77 => if q76.1 = q77.1 then (z_l (p3 + (6 : Int32)) (fun t79 => some (.inl (t79, q77.2, R)))) else (some (.inr (0 : Int32)))))))
set_option maxRecDepth 20000 in
theorem wL_c12 {G : z_G} {d : Nat} {Q : Option Value → z_S → z_H → Prop} {p3 : Int32} {I : Nat → Nat → Int32} {R : Nat → Nat → Nat} {o : (Int32 × (Nat → Nat → Int32) × (Nat → Nat → Nat)) ⊕ Int32} (hd : 68 ≤ d) (hf : fL_c12 G.2.2.2.2.2.2 G.2.2.2.2.2.1 p3 I R = some o) (hk : z_or (fun s : Int32 × (Nat → Nat → Int32) × (Nat → Nat → Nat) => z_W G eL_law d 0 0 18 [some (.ref 100000), some (.ref 0), some (.ref 102), some (.int s.1)] [] z_SH (s.2.1, s.2.2) Q) (fun v : Int32 => ∀ h, Q (some (.int v)) z_SH h) o) : z_W G eL_law d 0 0 592 [some (.ref 100000), some (.ref 0), some (.ref 102), some (.int p3)] [] z_SH (I, R) Q := by
  unfold fL_c12 at hf
  refine z_aload_n dL_law_592 rfl rfl (by decide) ?_
  refine z_aload_n dL_law_593 rfl rfl (by decide) ?_
  refine z_iload_n dL_law_594 rfl rfl ?_
  refine z_iconst dL_law_595 kc_1 ?_
  refine z_iadd dL_law_596 ?_
  obtain ⟨g74, hf⟩ := z_g_el hf
  refine z_sald g74 dL_law_597 ?_
  refine z_aload_n dL_law_598 rfl rfl (by decide) ?_
  refine z_iload_n dL_law_599 rfl rfl ?_
  refine z_iconst dL_law_600 kc_2 ?_
  refine z_iadd dL_law_601 ?_
  obtain ⟨g75, hf⟩ := z_g_el hf
  refine z_sald g75 dL_law_602 ?_
  obtain ⟨q76, hq76, hf⟩ := z_b_el hf
  refine y_cVi (av := [.int (G.2.2.2.2.2.2 (p3 + (1 : Int32)).toNatClampNeg), .int (G.2.2.2.2.2.2 (p3 + (2 : Int32)).toNatClampNeg)]) (Nat.le_trans (Nat.le_of_ble_eq_true rfl) hd) (wX12_end (z_dl rfl hd) hq76) oX12_end lmL_68 iX12_end z_ob0 rfl _ rfl rfl (Nat.le_of_ble_eq_true rfl) dL_law_603 ?_
  refine z_aload_n dL_law_606 rfl rfl (by decide) ?_
  refine z_aload_n dL_law_607 rfl rfl (by decide) ?_
  refine z_iload_n dL_law_608 rfl rfl ?_
  refine z_iconst dL_law_609 kc_1 ?_
  refine z_iadd dL_law_610 ?_
  refine z_sald g74 dL_law_611 ?_
  refine z_aload_n dL_law_612 rfl rfl (by decide) ?_
  refine z_iload_n dL_law_613 rfl rfl ?_
  refine z_iconst dL_law_614 kc_2 ?_
  refine z_iadd dL_law_615 ?_
  refine z_sald g75 dL_law_616 ?_
  obtain ⟨q77, hq77, hf⟩ := z_b_el hf
  refine y_cVi (av := [.int (G.2.2.2.2.2.2 (p3 + (1 : Int32)).toNatClampNeg), .int (G.2.2.2.2.2.2 (p3 + (2 : Int32)).toNatClampNeg)]) (Nat.le_trans (Nat.le_of_ble_eq_true rfl) hd) (wX13_end (z_dl rfl hd) hq77) oX13_end lmL_71 iX13_end z_ob102 rfl _ rfl rfl (Nat.le_of_ble_eq_true rfl) dL_law_617 ?_
  refine z_icmp_eq (tgt := 1317) dL_law_620 (by decide) (fun c78 => ?_) (fun c78 => ?_)
  · have hf := z_if_t hf c78
    refine y_iinc (fun t79 => [some (.ref 100000), some (.ref 0), some (.ref 102), some (.int t79)]) dL_law_1317 rfl kc_6 (by decide) (fun _ => rfl) (fun t79 et79 => ?_)
    have hf := z_l_el hf et79
    refine z_goto (tgt := 18) dL_law_1320 (by decide) ?_
    cases hf
    exact hk
  · have hf := z_if_f hf c78
    refine z_iconst dL_law_623 kc_0 ?_
    cases hf
    exact z_iret (hk _) ⟨_, rfl, rfl⟩ dL_law_624
def fL_c13 (xs : Nat → Int32) (L : Nat) (p3 : Int32) (I : Nat → Nat → Int32) (R : Nat → Nat → Nat) : Option ((Int32 × (Nat → Nat → Int32) × (Nat → Nat → Nat)) ⊕ Int32) :=
  z_g (¬ ((p3 + (1 : Int32)) < 0 ∨ L ≤ (p3 + (1 : Int32)).toNatClampNeg)) (z_b (fX12_spread 0 (xs (p3 + (1 : Int32)).toNatClampNeg) I R) (fun q81 => z_b (fX13_spread 102 (xs (p3 + (1 : Int32)).toNatClampNeg) q81.2 R) (fun q82 => if q81.1 = q82.1 then (z_l (p3 + (6 : Int32)) (fun t84 => some (.inl (t84, q82.2, R)))) else (some (.inr (0 : Int32))))))
set_option maxRecDepth 20000 in
theorem wL_c13 {G : z_G} {d : Nat} {Q : Option Value → z_S → z_H → Prop} {p3 : Int32} {I : Nat → Nat → Int32} {R : Nat → Nat → Nat} {o : (Int32 × (Nat → Nat → Int32) × (Nat → Nat → Nat)) ⊕ Int32} (hd : 68 ≤ d) (hf : fL_c13 G.2.2.2.2.2.2 G.2.2.2.2.2.1 p3 I R = some o) (hk : z_or (fun s : Int32 × (Nat → Nat → Int32) × (Nat → Nat → Nat) => z_W G eL_law d 0 0 18 [some (.ref 100000), some (.ref 0), some (.ref 102), some (.int s.1)] [] z_SH (s.2.1, s.2.2) Q) (fun v : Int32 => ∀ h, Q (some (.int v)) z_SH h) o) : z_W G eL_law d 0 0 625 [some (.ref 100000), some (.ref 0), some (.ref 102), some (.int p3)] [] z_SH (I, R) Q := by
  unfold fL_c13 at hf
  refine z_aload_n dL_law_625 rfl rfl (by decide) ?_
  refine z_aload_n dL_law_626 rfl rfl (by decide) ?_
  refine z_iload_n dL_law_627 rfl rfl ?_
  refine z_iconst dL_law_628 kc_1 ?_
  refine z_iadd dL_law_629 ?_
  obtain ⟨g80, hf⟩ := z_g_el hf
  refine z_sald g80 dL_law_630 ?_
  obtain ⟨q81, hq81, hf⟩ := z_b_el hf
  refine y_cVi (av := [.int (G.2.2.2.2.2.2 (p3 + (1 : Int32)).toNatClampNeg)]) (Nat.le_trans (Nat.le_of_ble_eq_true rfl) hd) (wX12_spread (z_dl rfl hd) hq81) oX12_spread lmL_72 iX12_spread z_ob0 rfl _ rfl rfl (Nat.le_of_ble_eq_true rfl) dL_law_631 ?_
  refine z_aload_n dL_law_634 rfl rfl (by decide) ?_
  refine z_aload_n dL_law_635 rfl rfl (by decide) ?_
  refine z_iload_n dL_law_636 rfl rfl ?_
  refine z_iconst dL_law_637 kc_1 ?_
  refine z_iadd dL_law_638 ?_
  refine z_sald g80 dL_law_639 ?_
  obtain ⟨q82, hq82, hf⟩ := z_b_el hf
  refine y_cVi (av := [.int (G.2.2.2.2.2.2 (p3 + (1 : Int32)).toNatClampNeg)]) (Nat.le_trans (Nat.le_of_ble_eq_true rfl) hd) (wX13_spread (z_dl rfl hd) hq82) oX13_spread lmL_75 iX13_spread z_ob102 rfl _ rfl rfl (Nat.le_of_ble_eq_true rfl) dL_law_640 ?_
  refine z_icmp_eq (tgt := 1317) dL_law_643 (by decide) (fun c83 => ?_) (fun c83 => ?_)
  · have hf := z_if_t hf c83
    refine y_iinc (fun t84 => [some (.ref 100000), some (.ref 0), some (.ref 102), some (.int t84)]) dL_law_1317 rfl kc_6 (by decide) (fun _ => rfl) (fun t84 et84 => ?_)
    have hf := z_l_el hf et84
    refine z_goto (tgt := 18) dL_law_1320 (by decide) ?_
    cases hf
    exact hk
  · have hf := z_if_f hf c83
    refine z_iconst dL_law_646 kc_0 ?_
    cases hf
    exact z_iret (hk _) ⟨_, rfl, rfl⟩ dL_law_647
def fL_c14 (xs : Nat → Int32) (L : Nat) (p3 : Int32) (I : Nat → Nat → Int32) (R : Nat → Nat → Nat) : Option ((Int32 × (Nat → Nat → Int32) × (Nat → Nat → Nat)) ⊕ Int32) :=
  z_g (¬ ((p3 + (1 : Int32)) < 0 ∨ L ≤ (p3 + (1 : Int32)).toNatClampNeg)) (z_g (¬ ((p3 + (2 : Int32)) < 0 ∨ L ≤ (p3 + (2 : Int32)).toNatClampNeg)) (z_b (fX12_firstCome 0 (xs (p3 + (1 : Int32)).toNatClampNeg) (xs (p3 + (2 : Int32)).toNatClampNeg) I R) (fun q87 => z_b (fX13_firstCome 102 (xs (p3 + (1 : Int32)).toNatClampNeg) (xs (p3 + (2 : Int32)).toNatClampNeg) q87.2 R) (fun q88 => if q87.1 = q88.1 then (z_l (p3 + (6 : Int32)) (fun t90 => some (.inl (t90, q88.2, R)))) else (some (.inr (0 : Int32)))))))
set_option maxRecDepth 20000 in
theorem wL_c14 {G : z_G} {d : Nat} {Q : Option Value → z_S → z_H → Prop} {p3 : Int32} {I : Nat → Nat → Int32} {R : Nat → Nat → Nat} {o : (Int32 × (Nat → Nat → Int32) × (Nat → Nat → Nat)) ⊕ Int32} (hd : 68 ≤ d) (hf : fL_c14 G.2.2.2.2.2.2 G.2.2.2.2.2.1 p3 I R = some o) (hk : z_or (fun s : Int32 × (Nat → Nat → Int32) × (Nat → Nat → Nat) => z_W G eL_law d 0 0 18 [some (.ref 100000), some (.ref 0), some (.ref 102), some (.int s.1)] [] z_SH (s.2.1, s.2.2) Q) (fun v : Int32 => ∀ h, Q (some (.int v)) z_SH h) o) : z_W G eL_law d 0 0 648 [some (.ref 100000), some (.ref 0), some (.ref 102), some (.int p3)] [] z_SH (I, R) Q := by
  unfold fL_c14 at hf
  refine z_aload_n dL_law_648 rfl rfl (by decide) ?_
  refine z_aload_n dL_law_649 rfl rfl (by decide) ?_
  refine z_iload_n dL_law_650 rfl rfl ?_
  refine z_iconst dL_law_651 kc_1 ?_
  refine z_iadd dL_law_652 ?_
  obtain ⟨g85, hf⟩ := z_g_el hf
  refine z_sald g85 dL_law_653 ?_
  refine z_aload_n dL_law_654 rfl rfl (by decide) ?_
  refine z_iload_n dL_law_655 rfl rfl ?_
  refine z_iconst dL_law_656 kc_2 ?_
  refine z_iadd dL_law_657 ?_
  obtain ⟨g86, hf⟩ := z_g_el hf
  refine z_sald g86 dL_law_658 ?_
  obtain ⟨q87, hq87, hf⟩ := z_b_el hf
  refine y_cVi (av := [.int (G.2.2.2.2.2.2 (p3 + (1 : Int32)).toNatClampNeg), .int (G.2.2.2.2.2.2 (p3 + (2 : Int32)).toNatClampNeg)]) (Nat.le_trans (Nat.le_of_ble_eq_true rfl) hd) (wX12_firstCome (z_dl rfl hd) hq87) oX12_firstCome lmL_76 iX12_firstCome z_ob0 rfl _ rfl rfl (Nat.le_of_ble_eq_true rfl) dL_law_659 ?_
  refine z_aload_n dL_law_662 rfl rfl (by decide) ?_
  refine z_aload_n dL_law_663 rfl rfl (by decide) ?_
  refine z_iload_n dL_law_664 rfl rfl ?_
  refine z_iconst dL_law_665 kc_1 ?_
  refine z_iadd dL_law_666 ?_
  refine z_sald g85 dL_law_667 ?_
  refine z_aload_n dL_law_668 rfl rfl (by decide) ?_
  refine z_iload_n dL_law_669 rfl rfl ?_
  refine z_iconst dL_law_670 kc_2 ?_
  refine z_iadd dL_law_671 ?_
  refine z_sald g86 dL_law_672 ?_
  obtain ⟨q88, hq88, hf⟩ := z_b_el hf
  refine y_cVi (av := [.int (G.2.2.2.2.2.2 (p3 + (1 : Int32)).toNatClampNeg), .int (G.2.2.2.2.2.2 (p3 + (2 : Int32)).toNatClampNeg)]) (Nat.le_trans (Nat.le_of_ble_eq_true rfl) hd) (wX13_firstCome (z_dl rfl hd) hq88) oX13_firstCome lmL_79 iX13_firstCome z_ob102 rfl _ rfl rfl (Nat.le_of_ble_eq_true rfl) dL_law_673 ?_
  refine z_icmp_eq (tgt := 1317) dL_law_676 (by decide) (fun c89 => ?_) (fun c89 => ?_)
  · have hf := z_if_t hf c89
    refine y_iinc (fun t90 => [some (.ref 100000), some (.ref 0), some (.ref 102), some (.int t90)]) dL_law_1317 rfl kc_6 (by decide) (fun _ => rfl) (fun t90 et90 => ?_)
    have hf := z_l_el hf et90
    refine z_goto (tgt := 18) dL_law_1320 (by decide) ?_
    cases hf
    exact hk
  · have hf := z_if_f hf c89
    refine z_iconst dL_law_679 kc_0 ?_
    cases hf
    exact z_iret (hk _) ⟨_, rfl, rfl⟩ dL_law_680
def fL_c15 (xs : Nat → Int32) (L : Nat) (p3 : Int32) (I : Nat → Nat → Int32) (R : Nat → Nat → Nat) : Option ((Int32 × (Nat → Nat → Int32) × (Nat → Nat → Nat)) ⊕ Int32) :=
  z_g (¬ ((p3 + (1 : Int32)) < 0 ∨ L ≤ (p3 + (1 : Int32)).toNatClampNeg)) (z_b (fX12_sounds 0 (xs (p3 + (1 : Int32)).toNatClampNeg) I R) (fun q92 => z_b (fX13_sounds 102 (xs (p3 + (1 : Int32)).toNatClampNeg) I R) (fun q93 => if q92 = q93 then (z_l (p3 + (6 : Int32)) (fun t95 => some (.inl (t95, I, R)))) else (some (.inr (0 : Int32))))))
set_option maxRecDepth 20000 in
theorem wL_c15 {G : z_G} {d : Nat} {Q : Option Value → z_S → z_H → Prop} {p3 : Int32} {I : Nat → Nat → Int32} {R : Nat → Nat → Nat} {o : (Int32 × (Nat → Nat → Int32) × (Nat → Nat → Nat)) ⊕ Int32} (hd : 68 ≤ d) (hf : fL_c15 G.2.2.2.2.2.2 G.2.2.2.2.2.1 p3 I R = some o) (hk : z_or (fun s : Int32 × (Nat → Nat → Int32) × (Nat → Nat → Nat) => z_W G eL_law d 0 0 18 [some (.ref 100000), some (.ref 0), some (.ref 102), some (.int s.1)] [] z_SH (s.2.1, s.2.2) Q) (fun v : Int32 => ∀ h, Q (some (.int v)) z_SH h) o) : z_W G eL_law d 0 0 681 [some (.ref 100000), some (.ref 0), some (.ref 102), some (.int p3)] [] z_SH (I, R) Q := by
  unfold fL_c15 at hf
  refine z_aload_n dL_law_681 rfl rfl (by decide) ?_
  refine z_aload_n dL_law_682 rfl rfl (by decide) ?_
  refine z_iload_n dL_law_683 rfl rfl ?_
  refine z_iconst dL_law_684 kc_1 ?_
  refine z_iadd dL_law_685 ?_
  obtain ⟨g91, hf⟩ := z_g_el hf
  refine z_sald g91 dL_law_686 ?_
  obtain ⟨q92, hq92, hf⟩ := z_b_el hf
  refine y_cVi (av := [.int (G.2.2.2.2.2.2 (p3 + (1 : Int32)).toNatClampNeg)]) (Nat.le_trans (Nat.le_of_ble_eq_true rfl) hd) (wX12_sounds (z_dl rfl hd) hq92) oX12_sounds lmL_80 iX12_sounds z_ob0 rfl _ rfl rfl (Nat.le_of_ble_eq_true rfl) dL_law_687 ?_
  refine z_aload_n dL_law_690 rfl rfl (by decide) ?_
  refine z_aload_n dL_law_691 rfl rfl (by decide) ?_
  refine z_iload_n dL_law_692 rfl rfl ?_
  refine z_iconst dL_law_693 kc_1 ?_
  refine z_iadd dL_law_694 ?_
  refine z_sald g91 dL_law_695 ?_
  obtain ⟨q93, hq93, hf⟩ := z_b_el hf
  refine y_cVi (av := [.int (G.2.2.2.2.2.2 (p3 + (1 : Int32)).toNatClampNeg)]) (Nat.le_trans (Nat.le_of_ble_eq_true rfl) hd) (wX13_sounds (z_dl rfl hd) hq93) oX13_sounds lmL_83 iX13_sounds z_ob102 rfl _ rfl rfl (Nat.le_of_ble_eq_true rfl) dL_law_696 ?_
  refine z_icmp_eq (tgt := 1317) dL_law_699 (by decide) (fun c94 => ?_) (fun c94 => ?_)
  · have hf := z_if_t hf c94
    refine y_iinc (fun t95 => [some (.ref 100000), some (.ref 0), some (.ref 102), some (.int t95)]) dL_law_1317 rfl kc_6 (by decide) (fun _ => rfl) (fun t95 et95 => ?_)
    have hf := z_l_el hf et95
    refine z_goto (tgt := 18) dL_law_1320 (by decide) ?_
    cases hf
    exact hk
  · have hf := z_if_f hf c94
    refine z_iconst dL_law_702 kc_0 ?_
    cases hf
    exact z_iret (hk _) ⟨_, rfl, rfl⟩ dL_law_703
def fL_c16 (xs : Nat → Int32) (L : Nat) (p3 : Int32) (I : Nat → Nat → Int32) (R : Nat → Nat → Nat) : Option ((Int32 × (Nat → Nat → Int32) × (Nat → Nat → Nat)) ⊕ Int32) :=
  z_g (¬ ((p3 + (1 : Int32)) < 0 ∨ L ≤ (p3 + (1 : Int32)).toNatClampNeg)) (z_g (¬ ((p3 + (2 : Int32)) < 0 ∨ L ≤ (p3 + (2 : Int32)).toNatClampNeg)) (z_g (¬ ((p3 + (3 : Int32)) < 0 ∨ L ≤ (p3 + (3 : Int32)).toNatClampNeg)) (z_b (fX12_canon 0 (xs (p3 + (1 : Int32)).toNatClampNeg) (xs (p3 + (2 : Int32)).toNatClampNeg) (xs (p3 + (3 : Int32)).toNatClampNeg) I R) (fun q99 => z_b (fX13_canon 102 (xs (p3 + (1 : Int32)).toNatClampNeg) (xs (p3 + (2 : Int32)).toNatClampNeg) (xs (p3 + (3 : Int32)).toNatClampNeg) I R) (fun q100 => if q99 = q100 then (z_l (p3 + (6 : Int32)) (fun t102 => some (.inl (t102, I, R)))) else (some (.inr (0 : Int32))))))))
set_option maxRecDepth 20000 in
theorem wL_c16 {G : z_G} {d : Nat} {Q : Option Value → z_S → z_H → Prop} {p3 : Int32} {I : Nat → Nat → Int32} {R : Nat → Nat → Nat} {o : (Int32 × (Nat → Nat → Int32) × (Nat → Nat → Nat)) ⊕ Int32} (hd : 68 ≤ d) (hf : fL_c16 G.2.2.2.2.2.2 G.2.2.2.2.2.1 p3 I R = some o) (hk : z_or (fun s : Int32 × (Nat → Nat → Int32) × (Nat → Nat → Nat) => z_W G eL_law d 0 0 18 [some (.ref 100000), some (.ref 0), some (.ref 102), some (.int s.1)] [] z_SH (s.2.1, s.2.2) Q) (fun v : Int32 => ∀ h, Q (some (.int v)) z_SH h) o) : z_W G eL_law d 0 0 704 [some (.ref 100000), some (.ref 0), some (.ref 102), some (.int p3)] [] z_SH (I, R) Q := by
  unfold fL_c16 at hf
  refine z_aload_n dL_law_704 rfl rfl (by decide) ?_
  refine z_aload_n dL_law_705 rfl rfl (by decide) ?_
  refine z_iload_n dL_law_706 rfl rfl ?_
  refine z_iconst dL_law_707 kc_1 ?_
  refine z_iadd dL_law_708 ?_
  obtain ⟨g96, hf⟩ := z_g_el hf
  refine z_sald g96 dL_law_709 ?_
  refine z_aload_n dL_law_710 rfl rfl (by decide) ?_
  refine z_iload_n dL_law_711 rfl rfl ?_
  refine z_iconst dL_law_712 kc_2 ?_
  refine z_iadd dL_law_713 ?_
  obtain ⟨g97, hf⟩ := z_g_el hf
  refine z_sald g97 dL_law_714 ?_
  refine z_aload_n dL_law_715 rfl rfl (by decide) ?_
  refine z_iload_n dL_law_716 rfl rfl ?_
  refine z_iconst dL_law_717 kc_3 ?_
  refine z_iadd dL_law_718 ?_
  obtain ⟨g98, hf⟩ := z_g_el hf
  refine z_sald g98 dL_law_719 ?_
  obtain ⟨q99, hq99, hf⟩ := z_b_el hf
  refine y_cVi (av := [.int (G.2.2.2.2.2.2 (p3 + (1 : Int32)).toNatClampNeg), .int (G.2.2.2.2.2.2 (p3 + (2 : Int32)).toNatClampNeg), .int (G.2.2.2.2.2.2 (p3 + (3 : Int32)).toNatClampNeg)]) (Nat.le_trans (Nat.le_of_ble_eq_true rfl) hd) (wX12_canon (z_dl rfl hd) hq99) oX12_canon lmL_84 iX12_canon z_ob0 rfl _ rfl rfl (Nat.le_of_ble_eq_true rfl) dL_law_720 ?_
  refine z_aload_n dL_law_723 rfl rfl (by decide) ?_
  refine z_aload_n dL_law_724 rfl rfl (by decide) ?_
  refine z_iload_n dL_law_725 rfl rfl ?_
  refine z_iconst dL_law_726 kc_1 ?_
  refine z_iadd dL_law_727 ?_
  refine z_sald g96 dL_law_728 ?_
  refine z_aload_n dL_law_729 rfl rfl (by decide) ?_
  refine z_iload_n dL_law_730 rfl rfl ?_
  refine z_iconst dL_law_731 kc_2 ?_
  refine z_iadd dL_law_732 ?_
  refine z_sald g97 dL_law_733 ?_
  refine z_aload_n dL_law_734 rfl rfl (by decide) ?_
  refine z_iload_n dL_law_735 rfl rfl ?_
  refine z_iconst dL_law_736 kc_3 ?_
  refine z_iadd dL_law_737 ?_
  refine z_sald g98 dL_law_738 ?_
  obtain ⟨q100, hq100, hf⟩ := z_b_el hf
  refine y_cVi (av := [.int (G.2.2.2.2.2.2 (p3 + (1 : Int32)).toNatClampNeg), .int (G.2.2.2.2.2.2 (p3 + (2 : Int32)).toNatClampNeg), .int (G.2.2.2.2.2.2 (p3 + (3 : Int32)).toNatClampNeg)]) (Nat.le_trans (Nat.le_of_ble_eq_true rfl) hd) (wX13_canon (z_dl rfl hd) hq100) oX13_canon lmL_87 iX13_canon z_ob102 rfl _ rfl rfl (Nat.le_of_ble_eq_true rfl) dL_law_739 ?_
  refine z_icmp_eq (tgt := 1317) dL_law_742 (by decide) (fun c101 => ?_) (fun c101 => ?_)
  · have hf := z_if_t hf c101
    refine y_iinc (fun t102 => [some (.ref 100000), some (.ref 0), some (.ref 102), some (.int t102)]) dL_law_1317 rfl kc_6 (by decide) (fun _ => rfl) (fun t102 et102 => ?_)
    have hf := z_l_el hf et102
    refine z_goto (tgt := 18) dL_law_1320 (by decide) ?_
    cases hf
    exact hk
  · have hf := z_if_f hf c101
    refine z_iconst dL_law_745 kc_0 ?_
    cases hf
    exact z_iret (hk _) ⟨_, rfl, rfl⟩ dL_law_746
def fL_c17 (xs : Nat → Int32) (L : Nat) (p3 : Int32) (I : Nat → Nat → Int32) (R : Nat → Nat → Nat) : Option ((Int32 × (Nat → Nat → Int32) × (Nat → Nat → Nat)) ⊕ Int32) :=
  z_g (¬ ((p3 + (1 : Int32)) < 0 ∨ L ≤ (p3 + (1 : Int32)).toNatClampNeg)) (z_g (¬ ((p3 + (2 : Int32)) < 0 ∨ L ≤ (p3 + (2 : Int32)).toNatClampNeg)) (z_g (¬ ((p3 + (3 : Int32)) < 0 ∨ L ≤ (p3 + (3 : Int32)).toNatClampNeg)) (z_b (fX12_returns 0 (xs (p3 + (1 : Int32)).toNatClampNeg) (xs (p3 + (2 : Int32)).toNatClampNeg) (xs (p3 + (3 : Int32)).toNatClampNeg) I R) (fun q106 => z_b (fX13_returns 102 (xs (p3 + (1 : Int32)).toNatClampNeg) (xs (p3 + (2 : Int32)).toNatClampNeg) (xs (p3 + (3 : Int32)).toNatClampNeg) q106.2 R) (fun q107 => if q106.1 = q107.1 then (z_l (p3 + (6 : Int32)) (fun t109 => some (.inl (t109, q107.2, R)))) else (some (.inr (0 : Int32))))))))
set_option maxRecDepth 20000 in
theorem wL_c17 {G : z_G} {d : Nat} {Q : Option Value → z_S → z_H → Prop} {p3 : Int32} {I : Nat → Nat → Int32} {R : Nat → Nat → Nat} {o : (Int32 × (Nat → Nat → Int32) × (Nat → Nat → Nat)) ⊕ Int32} (hd : 68 ≤ d) (hf : fL_c17 G.2.2.2.2.2.2 G.2.2.2.2.2.1 p3 I R = some o) (hk : z_or (fun s : Int32 × (Nat → Nat → Int32) × (Nat → Nat → Nat) => z_W G eL_law d 0 0 18 [some (.ref 100000), some (.ref 0), some (.ref 102), some (.int s.1)] [] z_SH (s.2.1, s.2.2) Q) (fun v : Int32 => ∀ h, Q (some (.int v)) z_SH h) o) : z_W G eL_law d 0 0 747 [some (.ref 100000), some (.ref 0), some (.ref 102), some (.int p3)] [] z_SH (I, R) Q := by
  unfold fL_c17 at hf
  refine z_aload_n dL_law_747 rfl rfl (by decide) ?_
  refine z_aload_n dL_law_748 rfl rfl (by decide) ?_
  refine z_iload_n dL_law_749 rfl rfl ?_
  refine z_iconst dL_law_750 kc_1 ?_
  refine z_iadd dL_law_751 ?_
  obtain ⟨g103, hf⟩ := z_g_el hf
  refine z_sald g103 dL_law_752 ?_
  refine z_aload_n dL_law_753 rfl rfl (by decide) ?_
  refine z_iload_n dL_law_754 rfl rfl ?_
  refine z_iconst dL_law_755 kc_2 ?_
  refine z_iadd dL_law_756 ?_
  obtain ⟨g104, hf⟩ := z_g_el hf
  refine z_sald g104 dL_law_757 ?_
  refine z_aload_n dL_law_758 rfl rfl (by decide) ?_
  refine z_iload_n dL_law_759 rfl rfl ?_
  refine z_iconst dL_law_760 kc_3 ?_
  refine z_iadd dL_law_761 ?_
  obtain ⟨g105, hf⟩ := z_g_el hf
  refine z_sald g105 dL_law_762 ?_
  obtain ⟨q106, hq106, hf⟩ := z_b_el hf
  refine y_cVi (av := [.int (G.2.2.2.2.2.2 (p3 + (1 : Int32)).toNatClampNeg), .int (G.2.2.2.2.2.2 (p3 + (2 : Int32)).toNatClampNeg), .int (G.2.2.2.2.2.2 (p3 + (3 : Int32)).toNatClampNeg)]) (Nat.le_trans (Nat.le_of_ble_eq_true rfl) hd) (wX12_returns (z_dl rfl hd) hq106) oX12_returns lmL_88 iX12_returns z_ob0 rfl _ rfl rfl (Nat.le_of_ble_eq_true rfl) dL_law_763 ?_
  refine z_aload_n dL_law_766 rfl rfl (by decide) ?_
  refine z_aload_n dL_law_767 rfl rfl (by decide) ?_
  refine z_iload_n dL_law_768 rfl rfl ?_
  refine z_iconst dL_law_769 kc_1 ?_
  refine z_iadd dL_law_770 ?_
  refine z_sald g103 dL_law_771 ?_
  refine z_aload_n dL_law_772 rfl rfl (by decide) ?_
  refine z_iload_n dL_law_773 rfl rfl ?_
  refine z_iconst dL_law_774 kc_2 ?_
  refine z_iadd dL_law_775 ?_
  refine z_sald g104 dL_law_776 ?_
  refine z_aload_n dL_law_777 rfl rfl (by decide) ?_
  refine z_iload_n dL_law_778 rfl rfl ?_
  refine z_iconst dL_law_779 kc_3 ?_
  refine z_iadd dL_law_780 ?_
  refine z_sald g105 dL_law_781 ?_
  obtain ⟨q107, hq107, hf⟩ := z_b_el hf
  refine y_cVi (av := [.int (G.2.2.2.2.2.2 (p3 + (1 : Int32)).toNatClampNeg), .int (G.2.2.2.2.2.2 (p3 + (2 : Int32)).toNatClampNeg), .int (G.2.2.2.2.2.2 (p3 + (3 : Int32)).toNatClampNeg)]) (Nat.le_trans (Nat.le_of_ble_eq_true rfl) hd) (wX13_returns (z_dl rfl hd) hq107) oX13_returns lmL_91 iX13_returns z_ob102 rfl _ rfl rfl (Nat.le_of_ble_eq_true rfl) dL_law_782 ?_
  refine z_icmp_eq (tgt := 1317) dL_law_785 (by decide) (fun c108 => ?_) (fun c108 => ?_)
  · have hf := z_if_t hf c108
    refine y_iinc (fun t109 => [some (.ref 100000), some (.ref 0), some (.ref 102), some (.int t109)]) dL_law_1317 rfl kc_6 (by decide) (fun _ => rfl) (fun t109 et109 => ?_)
    have hf := z_l_el hf et109
    refine z_goto (tgt := 18) dL_law_1320 (by decide) ?_
    cases hf
    exact hk
  · have hf := z_if_f hf c108
    refine z_iconst dL_law_788 kc_0 ?_
    cases hf
    exact z_iret (hk _) ⟨_, rfl, rfl⟩ dL_law_789
def fL_c18 (xs : Nat → Int32) (L : Nat) (p3 : Int32) (I : Nat → Nat → Int32) (R : Nat → Nat → Nat) : Option ((Int32 × (Nat → Nat → Int32) × (Nat → Nat → Nat)) ⊕ Int32) :=
  z_g (¬ ((p3 + (1 : Int32)) < 0 ∨ L ≤ (p3 + (1 : Int32)).toNatClampNeg)) (z_g (¬ ((p3 + (2 : Int32)) < 0 ∨ L ≤ (p3 + (2 : Int32)).toNatClampNeg)) (z_b (fX12_backwards 0 (xs (p3 + (1 : Int32)).toNatClampNeg) (xs (p3 + (2 : Int32)).toNatClampNeg) I R) (fun q112 => z_b (fX13_backwards 102 (xs (p3 + (1 : Int32)).toNatClampNeg) (xs (p3 + (2 : Int32)).toNatClampNeg) q112.2 R) (fun q113 => if q112.1 = q113.1 then (z_l (p3 + (6 : Int32)) (fun t115 => some (.inl (t115, q113.2, R)))) else (some (.inr (0 : Int32)))))))
set_option maxRecDepth 20000 in
theorem wL_c18 {G : z_G} {d : Nat} {Q : Option Value → z_S → z_H → Prop} {p3 : Int32} {I : Nat → Nat → Int32} {R : Nat → Nat → Nat} {o : (Int32 × (Nat → Nat → Int32) × (Nat → Nat → Nat)) ⊕ Int32} (hd : 68 ≤ d) (hf : fL_c18 G.2.2.2.2.2.2 G.2.2.2.2.2.1 p3 I R = some o) (hk : z_or (fun s : Int32 × (Nat → Nat → Int32) × (Nat → Nat → Nat) => z_W G eL_law d 0 0 18 [some (.ref 100000), some (.ref 0), some (.ref 102), some (.int s.1)] [] z_SH (s.2.1, s.2.2) Q) (fun v : Int32 => ∀ h, Q (some (.int v)) z_SH h) o) : z_W G eL_law d 0 0 790 [some (.ref 100000), some (.ref 0), some (.ref 102), some (.int p3)] [] z_SH (I, R) Q := by
  unfold fL_c18 at hf
  refine z_aload_n dL_law_790 rfl rfl (by decide) ?_
  refine z_aload_n dL_law_791 rfl rfl (by decide) ?_
  refine z_iload_n dL_law_792 rfl rfl ?_
  refine z_iconst dL_law_793 kc_1 ?_
  refine z_iadd dL_law_794 ?_
  obtain ⟨g110, hf⟩ := z_g_el hf
  refine z_sald g110 dL_law_795 ?_
  refine z_aload_n dL_law_796 rfl rfl (by decide) ?_
  refine z_iload_n dL_law_797 rfl rfl ?_
  refine z_iconst dL_law_798 kc_2 ?_
  refine z_iadd dL_law_799 ?_
  obtain ⟨g111, hf⟩ := z_g_el hf
  refine z_sald g111 dL_law_800 ?_
  obtain ⟨q112, hq112, hf⟩ := z_b_el hf
  refine y_cVi (av := [.int (G.2.2.2.2.2.2 (p3 + (1 : Int32)).toNatClampNeg), .int (G.2.2.2.2.2.2 (p3 + (2 : Int32)).toNatClampNeg)]) (Nat.le_trans (Nat.le_of_ble_eq_true rfl) hd) (wX12_backwards (z_dl rfl hd) hq112) oX12_backwards lmL_92 iX12_backwards z_ob0 rfl _ rfl rfl (Nat.le_of_ble_eq_true rfl) dL_law_801 ?_
  refine z_aload_n dL_law_804 rfl rfl (by decide) ?_
  refine z_aload_n dL_law_805 rfl rfl (by decide) ?_
  refine z_iload_n dL_law_806 rfl rfl ?_
  refine z_iconst dL_law_807 kc_1 ?_
  refine z_iadd dL_law_808 ?_
  refine z_sald g110 dL_law_809 ?_
  refine z_aload_n dL_law_810 rfl rfl (by decide) ?_
  refine z_iload_n dL_law_811 rfl rfl ?_
  refine z_iconst dL_law_812 kc_2 ?_
  refine z_iadd dL_law_813 ?_
  refine z_sald g111 dL_law_814 ?_
  obtain ⟨q113, hq113, hf⟩ := z_b_el hf
  refine y_cVi (av := [.int (G.2.2.2.2.2.2 (p3 + (1 : Int32)).toNatClampNeg), .int (G.2.2.2.2.2.2 (p3 + (2 : Int32)).toNatClampNeg)]) (Nat.le_trans (Nat.le_of_ble_eq_true rfl) hd) (wX13_backwards (z_dl rfl hd) hq113) oX13_backwards lmL_95 iX13_backwards z_ob102 rfl _ rfl rfl (Nat.le_of_ble_eq_true rfl) dL_law_815 ?_
  refine z_icmp_eq (tgt := 1317) dL_law_818 (by decide) (fun c114 => ?_) (fun c114 => ?_)
  · have hf := z_if_t hf c114
    refine y_iinc (fun t115 => [some (.ref 100000), some (.ref 0), some (.ref 102), some (.int t115)]) dL_law_1317 rfl kc_6 (by decide) (fun _ => rfl) (fun t115 et115 => ?_)
    have hf := z_l_el hf et115
    refine z_goto (tgt := 18) dL_law_1320 (by decide) ?_
    cases hf
    exact hk
  · have hf := z_if_f hf c114
    refine z_iconst dL_law_821 kc_0 ?_
    cases hf
    exact z_iret (hk _) ⟨_, rfl, rfl⟩ dL_law_822
def fL_c19 (xs : Nat → Int32) (L : Nat) (p3 : Int32) (I : Nat → Nat → Int32) (R : Nat → Nat → Nat) : Option ((Int32 × (Nat → Nat → Int32) × (Nat → Nat → Nat)) ⊕ Int32) :=
  z_g (¬ ((p3 + (1 : Int32)) < 0 ∨ L ≤ (p3 + (1 : Int32)).toNatClampNeg)) (z_b (fX12_range 0 (xs (p3 + (1 : Int32)).toNatClampNeg) I R) (fun q117 => z_b (fX13_range 102 (xs (p3 + (1 : Int32)).toNatClampNeg) I R) (fun q118 => if q117 = q118.1 then (z_l (p3 + (6 : Int32)) (fun t120 => some (.inl (t120, q118.2, R)))) else (some (.inr (0 : Int32))))))
set_option maxRecDepth 20000 in
theorem wL_c19 {G : z_G} {d : Nat} {Q : Option Value → z_S → z_H → Prop} {p3 : Int32} {I : Nat → Nat → Int32} {R : Nat → Nat → Nat} {o : (Int32 × (Nat → Nat → Int32) × (Nat → Nat → Nat)) ⊕ Int32} (hd : 68 ≤ d) (hf : fL_c19 G.2.2.2.2.2.2 G.2.2.2.2.2.1 p3 I R = some o) (hk : z_or (fun s : Int32 × (Nat → Nat → Int32) × (Nat → Nat → Nat) => z_W G eL_law d 0 0 18 [some (.ref 100000), some (.ref 0), some (.ref 102), some (.int s.1)] [] z_SH (s.2.1, s.2.2) Q) (fun v : Int32 => ∀ h, Q (some (.int v)) z_SH h) o) : z_W G eL_law d 0 0 823 [some (.ref 100000), some (.ref 0), some (.ref 102), some (.int p3)] [] z_SH (I, R) Q := by
  unfold fL_c19 at hf
  refine z_aload_n dL_law_823 rfl rfl (by decide) ?_
  refine z_aload_n dL_law_824 rfl rfl (by decide) ?_
  refine z_iload_n dL_law_825 rfl rfl ?_
  refine z_iconst dL_law_826 kc_1 ?_
  refine z_iadd dL_law_827 ?_
  obtain ⟨g116, hf⟩ := z_g_el hf
  refine z_sald g116 dL_law_828 ?_
  obtain ⟨q117, hq117, hf⟩ := z_b_el hf
  refine y_cVi (av := [.int (G.2.2.2.2.2.2 (p3 + (1 : Int32)).toNatClampNeg)]) (Nat.le_trans (Nat.le_of_ble_eq_true rfl) hd) (wX12_range (z_dl rfl hd) hq117) oX12_range lmL_96 iX12_range z_ob0 rfl _ rfl rfl (Nat.le_of_ble_eq_true rfl) dL_law_829 ?_
  refine z_aload_n dL_law_832 rfl rfl (by decide) ?_
  refine z_aload_n dL_law_833 rfl rfl (by decide) ?_
  refine z_iload_n dL_law_834 rfl rfl ?_
  refine z_iconst dL_law_835 kc_1 ?_
  refine z_iadd dL_law_836 ?_
  refine z_sald g116 dL_law_837 ?_
  obtain ⟨q118, hq118, hf⟩ := z_b_el hf
  refine y_cVi (av := [.int (G.2.2.2.2.2.2 (p3 + (1 : Int32)).toNatClampNeg)]) (Nat.le_trans (Nat.le_of_ble_eq_true rfl) hd) (wX13_range (z_dl rfl hd) hq118) oX13_range lmL_99 iX13_range z_ob102 rfl _ rfl rfl (Nat.le_of_ble_eq_true rfl) dL_law_838 ?_
  refine z_icmp_eq (tgt := 1317) dL_law_841 (by decide) (fun c119 => ?_) (fun c119 => ?_)
  · have hf := z_if_t hf c119
    refine y_iinc (fun t120 => [some (.ref 100000), some (.ref 0), some (.ref 102), some (.int t120)]) dL_law_1317 rfl kc_6 (by decide) (fun _ => rfl) (fun t120 et120 => ?_)
    have hf := z_l_el hf et120
    refine z_goto (tgt := 18) dL_law_1320 (by decide) ?_
    cases hf
    exact hk
  · have hf := z_if_f hf c119
    refine z_iconst dL_law_844 kc_0 ?_
    cases hf
    exact z_iret (hk _) ⟨_, rfl, rfl⟩ dL_law_845
def fL_c20 (xs : Nat → Int32) (L : Nat) (p3 : Int32) (I : Nat → Nat → Int32) (R : Nat → Nat → Nat) : Option ((Int32 × (Nat → Nat → Int32) × (Nat → Nat → Nat)) ⊕ Int32) :=
  z_g (¬ ((p3 + (1 : Int32)) < 0 ∨ L ≤ (p3 + (1 : Int32)).toNatClampNeg)) (z_b (fX12_alone 0 (xs (p3 + (1 : Int32)).toNatClampNeg) I R) (fun q122 => z_b (fX13_alone 102 (xs (p3 + (1 : Int32)).toNatClampNeg) I R) (fun q123 => if q122 = q123 then (z_l (p3 + (6 : Int32)) (fun t125 => some (.inl (t125, I, R)))) else (some (.inr (0 : Int32))))))
set_option maxRecDepth 20000 in
theorem wL_c20 {G : z_G} {d : Nat} {Q : Option Value → z_S → z_H → Prop} {p3 : Int32} {I : Nat → Nat → Int32} {R : Nat → Nat → Nat} {o : (Int32 × (Nat → Nat → Int32) × (Nat → Nat → Nat)) ⊕ Int32} (hd : 68 ≤ d) (hf : fL_c20 G.2.2.2.2.2.2 G.2.2.2.2.2.1 p3 I R = some o) (hk : z_or (fun s : Int32 × (Nat → Nat → Int32) × (Nat → Nat → Nat) => z_W G eL_law d 0 0 18 [some (.ref 100000), some (.ref 0), some (.ref 102), some (.int s.1)] [] z_SH (s.2.1, s.2.2) Q) (fun v : Int32 => ∀ h, Q (some (.int v)) z_SH h) o) : z_W G eL_law d 0 0 846 [some (.ref 100000), some (.ref 0), some (.ref 102), some (.int p3)] [] z_SH (I, R) Q := by
  unfold fL_c20 at hf
  refine z_aload_n dL_law_846 rfl rfl (by decide) ?_
  refine z_aload_n dL_law_847 rfl rfl (by decide) ?_
  refine z_iload_n dL_law_848 rfl rfl ?_
  refine z_iconst dL_law_849 kc_1 ?_
  refine z_iadd dL_law_850 ?_
  obtain ⟨g121, hf⟩ := z_g_el hf
  refine z_sald g121 dL_law_851 ?_
  obtain ⟨q122, hq122, hf⟩ := z_b_el hf
  refine y_cVi (av := [.int (G.2.2.2.2.2.2 (p3 + (1 : Int32)).toNatClampNeg)]) (Nat.le_trans (Nat.le_of_ble_eq_true rfl) hd) (wX12_alone (z_dl rfl hd) hq122) oX12_alone lmL_100 iX12_alone z_ob0 rfl _ rfl rfl (Nat.le_of_ble_eq_true rfl) dL_law_852 ?_
  refine z_aload_n dL_law_855 rfl rfl (by decide) ?_
  refine z_aload_n dL_law_856 rfl rfl (by decide) ?_
  refine z_iload_n dL_law_857 rfl rfl ?_
  refine z_iconst dL_law_858 kc_1 ?_
  refine z_iadd dL_law_859 ?_
  refine z_sald g121 dL_law_860 ?_
  obtain ⟨q123, hq123, hf⟩ := z_b_el hf
  refine y_cVi (av := [.int (G.2.2.2.2.2.2 (p3 + (1 : Int32)).toNatClampNeg)]) (Nat.le_trans (Nat.le_of_ble_eq_true rfl) hd) (wX13_alone (z_dl rfl hd) hq123) oX13_alone lmL_103 iX13_alone z_ob102 rfl _ rfl rfl (Nat.le_of_ble_eq_true rfl) dL_law_861 ?_
  refine z_icmp_eq (tgt := 1317) dL_law_864 (by decide) (fun c124 => ?_) (fun c124 => ?_)
  · have hf := z_if_t hf c124
    refine y_iinc (fun t125 => [some (.ref 100000), some (.ref 0), some (.ref 102), some (.int t125)]) dL_law_1317 rfl kc_6 (by decide) (fun _ => rfl) (fun t125 et125 => ?_)
    have hf := z_l_el hf et125
    refine z_goto (tgt := 18) dL_law_1320 (by decide) ?_
    cases hf
    exact hk
  · have hf := z_if_f hf c124
    refine z_iconst dL_law_867 kc_0 ?_
    cases hf
    exact z_iret (hk _) ⟨_, rfl, rfl⟩ dL_law_868
def fL_c21 (xs : Nat → Int32) (L : Nat) (p3 : Int32) (I : Nat → Nat → Int32) (R : Nat → Nat → Nat) : Option ((Int32 × (Nat → Nat → Int32) × (Nat → Nat → Nat)) ⊕ Int32) :=
  z_g (¬ ((p3 + (1 : Int32)) < 0 ∨ L ≤ (p3 + (1 : Int32)).toNatClampNeg)) (z_g (¬ ((p3 + (2 : Int32)) < 0 ∨ L ≤ (p3 + (2 : Int32)).toNatClampNeg)) (z_g (¬ ((p3 + (3 : Int32)) < 0 ∨ L ≤ (p3 + (3 : Int32)).toNatClampNeg)) (z_b (fX12_together 0 (xs (p3 + (1 : Int32)).toNatClampNeg) (xs (p3 + (2 : Int32)).toNatClampNeg) (xs (p3 + (3 : Int32)).toNatClampNeg) I R) (fun q129 => z_b (fX13_together 102 (xs (p3 + (1 : Int32)).toNatClampNeg) (xs (p3 + (2 : Int32)).toNatClampNeg) (xs (p3 + (3 : Int32)).toNatClampNeg) q129.2 R) (fun q130 => if q129.1 = q130.1 then (z_l (p3 + (6 : Int32)) (fun t132 => some (.inl (t132, q130.2, R)))) else (some (.inr (0 : Int32))))))))
set_option maxRecDepth 20000 in
theorem wL_c21 {G : z_G} {d : Nat} {Q : Option Value → z_S → z_H → Prop} {p3 : Int32} {I : Nat → Nat → Int32} {R : Nat → Nat → Nat} {o : (Int32 × (Nat → Nat → Int32) × (Nat → Nat → Nat)) ⊕ Int32} (hd : 68 ≤ d) (hf : fL_c21 G.2.2.2.2.2.2 G.2.2.2.2.2.1 p3 I R = some o) (hk : z_or (fun s : Int32 × (Nat → Nat → Int32) × (Nat → Nat → Nat) => z_W G eL_law d 0 0 18 [some (.ref 100000), some (.ref 0), some (.ref 102), some (.int s.1)] [] z_SH (s.2.1, s.2.2) Q) (fun v : Int32 => ∀ h, Q (some (.int v)) z_SH h) o) : z_W G eL_law d 0 0 869 [some (.ref 100000), some (.ref 0), some (.ref 102), some (.int p3)] [] z_SH (I, R) Q := by
  unfold fL_c21 at hf
  refine z_aload_n dL_law_869 rfl rfl (by decide) ?_
  refine z_aload_n dL_law_870 rfl rfl (by decide) ?_
  refine z_iload_n dL_law_871 rfl rfl ?_
  refine z_iconst dL_law_872 kc_1 ?_
  refine z_iadd dL_law_873 ?_
  obtain ⟨g126, hf⟩ := z_g_el hf
  refine z_sald g126 dL_law_874 ?_
  refine z_aload_n dL_law_875 rfl rfl (by decide) ?_
  refine z_iload_n dL_law_876 rfl rfl ?_
  refine z_iconst dL_law_877 kc_2 ?_
  refine z_iadd dL_law_878 ?_
  obtain ⟨g127, hf⟩ := z_g_el hf
  refine z_sald g127 dL_law_879 ?_
  refine z_aload_n dL_law_880 rfl rfl (by decide) ?_
  refine z_iload_n dL_law_881 rfl rfl ?_
  refine z_iconst dL_law_882 kc_3 ?_
  refine z_iadd dL_law_883 ?_
  obtain ⟨g128, hf⟩ := z_g_el hf
  refine z_sald g128 dL_law_884 ?_
  obtain ⟨q129, hq129, hf⟩ := z_b_el hf
  refine y_cVi (av := [.int (G.2.2.2.2.2.2 (p3 + (1 : Int32)).toNatClampNeg), .int (G.2.2.2.2.2.2 (p3 + (2 : Int32)).toNatClampNeg), .int (G.2.2.2.2.2.2 (p3 + (3 : Int32)).toNatClampNeg)]) (Nat.le_trans (Nat.le_of_ble_eq_true rfl) hd) (wX12_together (z_dl rfl hd) hq129) oX12_together lmL_104 iX12_together z_ob0 rfl _ rfl rfl (Nat.le_of_ble_eq_true rfl) dL_law_885 ?_
  refine z_aload_n dL_law_888 rfl rfl (by decide) ?_
  refine z_aload_n dL_law_889 rfl rfl (by decide) ?_
  refine z_iload_n dL_law_890 rfl rfl ?_
  refine z_iconst dL_law_891 kc_1 ?_
  refine z_iadd dL_law_892 ?_
  refine z_sald g126 dL_law_893 ?_
  refine z_aload_n dL_law_894 rfl rfl (by decide) ?_
  refine z_iload_n dL_law_895 rfl rfl ?_
  refine z_iconst dL_law_896 kc_2 ?_
  refine z_iadd dL_law_897 ?_
  refine z_sald g127 dL_law_898 ?_
  refine z_aload_n dL_law_899 rfl rfl (by decide) ?_
  refine z_iload_n dL_law_900 rfl rfl ?_
  refine z_iconst dL_law_901 kc_3 ?_
  refine z_iadd dL_law_902 ?_
  refine z_sald g128 dL_law_903 ?_
  obtain ⟨q130, hq130, hf⟩ := z_b_el hf
  refine y_cVi (av := [.int (G.2.2.2.2.2.2 (p3 + (1 : Int32)).toNatClampNeg), .int (G.2.2.2.2.2.2 (p3 + (2 : Int32)).toNatClampNeg), .int (G.2.2.2.2.2.2 (p3 + (3 : Int32)).toNatClampNeg)]) (Nat.le_trans (Nat.le_of_ble_eq_true rfl) hd) (wX13_together (z_dl rfl hd) hq130) oX13_together lmL_107 iX13_together z_ob102 rfl _ rfl rfl (Nat.le_of_ble_eq_true rfl) dL_law_904 ?_
  refine z_icmp_eq (tgt := 1317) dL_law_907 (by decide) (fun c131 => ?_) (fun c131 => ?_)
  · have hf := z_if_t hf c131
    refine y_iinc (fun t132 => [some (.ref 100000), some (.ref 0), some (.ref 102), some (.int t132)]) dL_law_1317 rfl kc_6 (by decide) (fun _ => rfl) (fun t132 et132 => ?_)
    have hf := z_l_el hf et132
    refine z_goto (tgt := 18) dL_law_1320 (by decide) ?_
    cases hf
    exact hk
  · have hf := z_if_f hf c131
    refine z_iconst dL_law_910 kc_0 ?_
    cases hf
    exact z_iret (hk _) ⟨_, rfl, rfl⟩ dL_law_911
def fL_c22 (xs : Nat → Int32) (L : Nat) (p3 : Int32) (I : Nat → Nat → Int32) (R : Nat → Nat → Nat) : Option ((Int32 × (Nat → Nat → Int32) × (Nat → Nat → Nat)) ⊕ Int32) :=
  z_g (¬ ((p3 + (1 : Int32)) < 0 ∨ L ≤ (p3 + (1 : Int32)).toNatClampNeg)) (z_b (fX12_attacks 0 (xs (p3 + (1 : Int32)).toNatClampNeg) I R) (fun q134 => z_b (fX13_attacks 102 (xs (p3 + (1 : Int32)).toNatClampNeg) I R) (fun q135 => if q134 = q135 then (z_l (p3 + (6 : Int32)) (fun t137 => some (.inl (t137, I, R)))) else (some (.inr (0 : Int32))))))
set_option maxRecDepth 20000 in
theorem wL_c22 {G : z_G} {d : Nat} {Q : Option Value → z_S → z_H → Prop} {p3 : Int32} {I : Nat → Nat → Int32} {R : Nat → Nat → Nat} {o : (Int32 × (Nat → Nat → Int32) × (Nat → Nat → Nat)) ⊕ Int32} (hd : 68 ≤ d) (hf : fL_c22 G.2.2.2.2.2.2 G.2.2.2.2.2.1 p3 I R = some o) (hk : z_or (fun s : Int32 × (Nat → Nat → Int32) × (Nat → Nat → Nat) => z_W G eL_law d 0 0 18 [some (.ref 100000), some (.ref 0), some (.ref 102), some (.int s.1)] [] z_SH (s.2.1, s.2.2) Q) (fun v : Int32 => ∀ h, Q (some (.int v)) z_SH h) o) : z_W G eL_law d 0 0 912 [some (.ref 100000), some (.ref 0), some (.ref 102), some (.int p3)] [] z_SH (I, R) Q := by
  unfold fL_c22 at hf
  refine z_aload_n dL_law_912 rfl rfl (by decide) ?_
  refine z_aload_n dL_law_913 rfl rfl (by decide) ?_
  refine z_iload_n dL_law_914 rfl rfl ?_
  refine z_iconst dL_law_915 kc_1 ?_
  refine z_iadd dL_law_916 ?_
  obtain ⟨g133, hf⟩ := z_g_el hf
  refine z_sald g133 dL_law_917 ?_
  obtain ⟨q134, hq134, hf⟩ := z_b_el hf
  refine y_cVi (av := [.int (G.2.2.2.2.2.2 (p3 + (1 : Int32)).toNatClampNeg)]) (Nat.le_trans (Nat.le_of_ble_eq_true rfl) hd) (wX12_attacks (z_dl rfl hd) hq134) oX12_attacks lmL_108 iX12_attacks z_ob0 rfl _ rfl rfl (Nat.le_of_ble_eq_true rfl) dL_law_918 ?_
  refine z_aload_n dL_law_921 rfl rfl (by decide) ?_
  refine z_aload_n dL_law_922 rfl rfl (by decide) ?_
  refine z_iload_n dL_law_923 rfl rfl ?_
  refine z_iconst dL_law_924 kc_1 ?_
  refine z_iadd dL_law_925 ?_
  refine z_sald g133 dL_law_926 ?_
  obtain ⟨q135, hq135, hf⟩ := z_b_el hf
  refine y_cVi (av := [.int (G.2.2.2.2.2.2 (p3 + (1 : Int32)).toNatClampNeg)]) (Nat.le_trans (Nat.le_of_ble_eq_true rfl) hd) (wX13_attacks (z_dl rfl hd) hq135) oX13_attacks lmL_111 iX13_attacks z_ob102 rfl _ rfl rfl (Nat.le_of_ble_eq_true rfl) dL_law_927 ?_
  refine z_icmp_eq (tgt := 1317) dL_law_930 (by decide) (fun c136 => ?_) (fun c136 => ?_)
  · have hf := z_if_t hf c136
    refine y_iinc (fun t137 => [some (.ref 100000), some (.ref 0), some (.ref 102), some (.int t137)]) dL_law_1317 rfl kc_6 (by decide) (fun _ => rfl) (fun t137 et137 => ?_)
    have hf := z_l_el hf et137
    refine z_goto (tgt := 18) dL_law_1320 (by decide) ?_
    cases hf
    exact hk
  · have hf := z_if_f hf c136
    refine z_iconst dL_law_933 kc_0 ?_
    cases hf
    exact z_iret (hk _) ⟨_, rfl, rfl⟩ dL_law_934
def fL_c23 (xs : Nat → Int32) (L : Nat) (p3 : Int32) (I : Nat → Nat → Int32) (R : Nat → Nat → Nat) : Option ((Int32 × (Nat → Nat → Int32) × (Nat → Nat → Nat)) ⊕ Int32) :=
  z_g (¬ ((p3 + (1 : Int32)) < 0 ∨ L ≤ (p3 + (1 : Int32)).toNatClampNeg)) (z_g (¬ ((p3 + (2 : Int32)) < 0 ∨ L ≤ (p3 + (2 : Int32)).toNatClampNeg)) (z_b (fX12_key 0 (xs (p3 + (1 : Int32)).toNatClampNeg) (xs (p3 + (2 : Int32)).toNatClampNeg) I R) (fun q140 => z_b (fX13_key 102 (xs (p3 + (1 : Int32)).toNatClampNeg) (xs (p3 + (2 : Int32)).toNatClampNeg) I R) (fun q141 => if q140 = q141 then (z_l (p3 + (6 : Int32)) (fun t143 => some (.inl (t143, I, R)))) else (some (.inr (0 : Int32)))))))
set_option maxRecDepth 20000 in
theorem wL_c23 {G : z_G} {d : Nat} {Q : Option Value → z_S → z_H → Prop} {p3 : Int32} {I : Nat → Nat → Int32} {R : Nat → Nat → Nat} {o : (Int32 × (Nat → Nat → Int32) × (Nat → Nat → Nat)) ⊕ Int32} (hd : 68 ≤ d) (hf : fL_c23 G.2.2.2.2.2.2 G.2.2.2.2.2.1 p3 I R = some o) (hk : z_or (fun s : Int32 × (Nat → Nat → Int32) × (Nat → Nat → Nat) => z_W G eL_law d 0 0 18 [some (.ref 100000), some (.ref 0), some (.ref 102), some (.int s.1)] [] z_SH (s.2.1, s.2.2) Q) (fun v : Int32 => ∀ h, Q (some (.int v)) z_SH h) o) : z_W G eL_law d 0 0 935 [some (.ref 100000), some (.ref 0), some (.ref 102), some (.int p3)] [] z_SH (I, R) Q := by
  unfold fL_c23 at hf
  refine z_aload_n dL_law_935 rfl rfl (by decide) ?_
  refine z_aload_n dL_law_936 rfl rfl (by decide) ?_
  refine z_iload_n dL_law_937 rfl rfl ?_
  refine z_iconst dL_law_938 kc_1 ?_
  refine z_iadd dL_law_939 ?_
  obtain ⟨g138, hf⟩ := z_g_el hf
  refine z_sald g138 dL_law_940 ?_
  refine z_aload_n dL_law_941 rfl rfl (by decide) ?_
  refine z_iload_n dL_law_942 rfl rfl ?_
  refine z_iconst dL_law_943 kc_2 ?_
  refine z_iadd dL_law_944 ?_
  obtain ⟨g139, hf⟩ := z_g_el hf
  refine z_sald g139 dL_law_945 ?_
  obtain ⟨q140, hq140, hf⟩ := z_b_el hf
  refine y_cVi (av := [.int (G.2.2.2.2.2.2 (p3 + (1 : Int32)).toNatClampNeg), .int (G.2.2.2.2.2.2 (p3 + (2 : Int32)).toNatClampNeg)]) (Nat.le_trans (Nat.le_of_ble_eq_true rfl) hd) (wX12_key (z_dl rfl hd) hq140) oX12_key lmL_112 iX12_key z_ob0 rfl _ rfl rfl (Nat.le_of_ble_eq_true rfl) dL_law_946 ?_
  refine z_aload_n dL_law_949 rfl rfl (by decide) ?_
  refine z_aload_n dL_law_950 rfl rfl (by decide) ?_
  refine z_iload_n dL_law_951 rfl rfl ?_
  refine z_iconst dL_law_952 kc_1 ?_
  refine z_iadd dL_law_953 ?_
  refine z_sald g138 dL_law_954 ?_
  refine z_aload_n dL_law_955 rfl rfl (by decide) ?_
  refine z_iload_n dL_law_956 rfl rfl ?_
  refine z_iconst dL_law_957 kc_2 ?_
  refine z_iadd dL_law_958 ?_
  refine z_sald g139 dL_law_959 ?_
  obtain ⟨q141, hq141, hf⟩ := z_b_el hf
  refine y_cVi (av := [.int (G.2.2.2.2.2.2 (p3 + (1 : Int32)).toNatClampNeg), .int (G.2.2.2.2.2.2 (p3 + (2 : Int32)).toNatClampNeg)]) (Nat.le_trans (Nat.le_of_ble_eq_true rfl) hd) (wX13_key (z_dl rfl hd) hq141) oX13_key lmL_115 iX13_key z_ob102 rfl _ rfl rfl (Nat.le_of_ble_eq_true rfl) dL_law_960 ?_
  refine z_icmp_eq (tgt := 1317) dL_law_963 (by decide) (fun c142 => ?_) (fun c142 => ?_)
  · have hf := z_if_t hf c142
    refine y_iinc (fun t143 => [some (.ref 100000), some (.ref 0), some (.ref 102), some (.int t143)]) dL_law_1317 rfl kc_6 (by decide) (fun _ => rfl) (fun t143 et143 => ?_)
    have hf := z_l_el hf et143
    refine z_goto (tgt := 18) dL_law_1320 (by decide) ?_
    cases hf
    exact hk
  · have hf := z_if_f hf c142
    refine z_iconst dL_law_966 kc_0 ?_
    cases hf
    exact z_iret (hk _) ⟨_, rfl, rfl⟩ dL_law_967
def fL_c24 (xs : Nat → Int32) (L : Nat) (p3 : Int32) (I : Nat → Nat → Int32) (R : Nat → Nat → Nat) : Option ((Int32 × (Nat → Nat → Int32) × (Nat → Nat → Nat)) ⊕ Int32) :=
  z_g (¬ ((p3 + (1 : Int32)) < 0 ∨ L ≤ (p3 + (1 : Int32)).toNatClampNeg)) (z_g (¬ ((p3 + (2 : Int32)) < 0 ∨ L ≤ (p3 + (2 : Int32)).toNatClampNeg)) (z_b (fX12_tune 0 (xs (p3 + (1 : Int32)).toNatClampNeg) (xs (p3 + (2 : Int32)).toNatClampNeg) I R) (fun q146 => z_b (fX13_tune 102 (xs (p3 + (1 : Int32)).toNatClampNeg) (xs (p3 + (2 : Int32)).toNatClampNeg) I R) (fun q147 => if q146 = q147.1 then (z_l (p3 + (6 : Int32)) (fun t149 => some (.inl (t149, q147.2, R)))) else (some (.inr (0 : Int32)))))))
set_option maxRecDepth 20000 in
theorem wL_c24 {G : z_G} {d : Nat} {Q : Option Value → z_S → z_H → Prop} {p3 : Int32} {I : Nat → Nat → Int32} {R : Nat → Nat → Nat} {o : (Int32 × (Nat → Nat → Int32) × (Nat → Nat → Nat)) ⊕ Int32} (hd : 68 ≤ d) (hf : fL_c24 G.2.2.2.2.2.2 G.2.2.2.2.2.1 p3 I R = some o) (hk : z_or (fun s : Int32 × (Nat → Nat → Int32) × (Nat → Nat → Nat) => z_W G eL_law d 0 0 18 [some (.ref 100000), some (.ref 0), some (.ref 102), some (.int s.1)] [] z_SH (s.2.1, s.2.2) Q) (fun v : Int32 => ∀ h, Q (some (.int v)) z_SH h) o) : z_W G eL_law d 0 0 968 [some (.ref 100000), some (.ref 0), some (.ref 102), some (.int p3)] [] z_SH (I, R) Q := by
  unfold fL_c24 at hf
  refine z_aload_n dL_law_968 rfl rfl (by decide) ?_
  refine z_aload_n dL_law_969 rfl rfl (by decide) ?_
  refine z_iload_n dL_law_970 rfl rfl ?_
  refine z_iconst dL_law_971 kc_1 ?_
  refine z_iadd dL_law_972 ?_
  obtain ⟨g144, hf⟩ := z_g_el hf
  refine z_sald g144 dL_law_973 ?_
  refine z_aload_n dL_law_974 rfl rfl (by decide) ?_
  refine z_iload_n dL_law_975 rfl rfl ?_
  refine z_iconst dL_law_976 kc_2 ?_
  refine z_iadd dL_law_977 ?_
  obtain ⟨g145, hf⟩ := z_g_el hf
  refine z_sald g145 dL_law_978 ?_
  obtain ⟨q146, hq146, hf⟩ := z_b_el hf
  refine y_cVi (av := [.int (G.2.2.2.2.2.2 (p3 + (1 : Int32)).toNatClampNeg), .int (G.2.2.2.2.2.2 (p3 + (2 : Int32)).toNatClampNeg)]) (Nat.le_trans (Nat.le_of_ble_eq_true rfl) hd) (wX12_tune (z_dl rfl hd) hq146) oX12_tune lmL_116 iX12_tune z_ob0 rfl _ rfl rfl (Nat.le_of_ble_eq_true rfl) dL_law_979 ?_
  refine z_aload_n dL_law_982 rfl rfl (by decide) ?_
  refine z_aload_n dL_law_983 rfl rfl (by decide) ?_
  refine z_iload_n dL_law_984 rfl rfl ?_
  refine z_iconst dL_law_985 kc_1 ?_
  refine z_iadd dL_law_986 ?_
  refine z_sald g144 dL_law_987 ?_
  refine z_aload_n dL_law_988 rfl rfl (by decide) ?_
  refine z_iload_n dL_law_989 rfl rfl ?_
  refine z_iconst dL_law_990 kc_2 ?_
  refine z_iadd dL_law_991 ?_
  refine z_sald g145 dL_law_992 ?_
  obtain ⟨q147, hq147, hf⟩ := z_b_el hf
  refine y_cVi (av := [.int (G.2.2.2.2.2.2 (p3 + (1 : Int32)).toNatClampNeg), .int (G.2.2.2.2.2.2 (p3 + (2 : Int32)).toNatClampNeg)]) (Nat.le_trans (Nat.le_of_ble_eq_true rfl) hd) (wX13_tune (z_dl rfl hd) hq147) oX13_tune lmL_119 iX13_tune z_ob102 rfl _ rfl rfl (Nat.le_of_ble_eq_true rfl) dL_law_993 ?_
  refine z_icmp_eq (tgt := 1317) dL_law_996 (by decide) (fun c148 => ?_) (fun c148 => ?_)
  · have hf := z_if_t hf c148
    refine y_iinc (fun t149 => [some (.ref 100000), some (.ref 0), some (.ref 102), some (.int t149)]) dL_law_1317 rfl kc_6 (by decide) (fun _ => rfl) (fun t149 et149 => ?_)
    have hf := z_l_el hf et149
    refine z_goto (tgt := 18) dL_law_1320 (by decide) ?_
    cases hf
    exact hk
  · have hf := z_if_f hf c148
    refine z_iconst dL_law_999 kc_0 ?_
    cases hf
    exact z_iret (hk _) ⟨_, rfl, rfl⟩ dL_law_1000
def fL_c25 (xs : Nat → Int32) (L : Nat) (p3 : Int32) (I : Nat → Nat → Int32) (R : Nat → Nat → Nat) : Option ((Int32 × (Nat → Nat → Int32) × (Nat → Nat → Nat)) ⊕ Int32) :=
  z_g (¬ ((p3 + (1 : Int32)) < 0 ∨ L ≤ (p3 + (1 : Int32)).toNatClampNeg)) (z_g (¬ ((p3 + (2 : Int32)) < 0 ∨ L ≤ (p3 + (2 : Int32)).toNatClampNeg)) (z_g (¬ ((p3 + (3 : Int32)) < 0 ∨ L ≤ (p3 + (3 : Int32)).toNatClampNeg)) (z_b (fX12_breaths 0 (xs (p3 + (1 : Int32)).toNatClampNeg) (xs (p3 + (2 : Int32)).toNatClampNeg) (xs (p3 + (3 : Int32)).toNatClampNeg) I R) (fun q153 => z_b (fX13_breaths 102 (xs (p3 + (1 : Int32)).toNatClampNeg) (xs (p3 + (2 : Int32)).toNatClampNeg) (xs (p3 + (3 : Int32)).toNatClampNeg) q153.2 R) (fun q154 => if q153.1 = q154.1 then (z_l (p3 + (6 : Int32)) (fun t156 => some (.inl (t156, q154.2, R)))) else (some (.inr (0 : Int32))))))))
set_option maxRecDepth 20000 in
theorem wL_c25 {G : z_G} {d : Nat} {Q : Option Value → z_S → z_H → Prop} {p3 : Int32} {I : Nat → Nat → Int32} {R : Nat → Nat → Nat} {o : (Int32 × (Nat → Nat → Int32) × (Nat → Nat → Nat)) ⊕ Int32} (hd : 68 ≤ d) (hf : fL_c25 G.2.2.2.2.2.2 G.2.2.2.2.2.1 p3 I R = some o) (hk : z_or (fun s : Int32 × (Nat → Nat → Int32) × (Nat → Nat → Nat) => z_W G eL_law d 0 0 18 [some (.ref 100000), some (.ref 0), some (.ref 102), some (.int s.1)] [] z_SH (s.2.1, s.2.2) Q) (fun v : Int32 => ∀ h, Q (some (.int v)) z_SH h) o) : z_W G eL_law d 0 0 1001 [some (.ref 100000), some (.ref 0), some (.ref 102), some (.int p3)] [] z_SH (I, R) Q := by
  unfold fL_c25 at hf
  refine z_aload_n dL_law_1001 rfl rfl (by decide) ?_
  refine z_aload_n dL_law_1002 rfl rfl (by decide) ?_
  refine z_iload_n dL_law_1003 rfl rfl ?_
  refine z_iconst dL_law_1004 kc_1 ?_
  refine z_iadd dL_law_1005 ?_
  obtain ⟨g150, hf⟩ := z_g_el hf
  refine z_sald g150 dL_law_1006 ?_
  refine z_aload_n dL_law_1007 rfl rfl (by decide) ?_
  refine z_iload_n dL_law_1008 rfl rfl ?_
  refine z_iconst dL_law_1009 kc_2 ?_
  refine z_iadd dL_law_1010 ?_
  obtain ⟨g151, hf⟩ := z_g_el hf
  refine z_sald g151 dL_law_1011 ?_
  refine z_aload_n dL_law_1012 rfl rfl (by decide) ?_
  refine z_iload_n dL_law_1013 rfl rfl ?_
  refine z_iconst dL_law_1014 kc_3 ?_
  refine z_iadd dL_law_1015 ?_
  obtain ⟨g152, hf⟩ := z_g_el hf
  refine z_sald g152 dL_law_1016 ?_
  obtain ⟨q153, hq153, hf⟩ := z_b_el hf
  refine y_cVi (av := [.int (G.2.2.2.2.2.2 (p3 + (1 : Int32)).toNatClampNeg), .int (G.2.2.2.2.2.2 (p3 + (2 : Int32)).toNatClampNeg), .int (G.2.2.2.2.2.2 (p3 + (3 : Int32)).toNatClampNeg)]) (Nat.le_trans (Nat.le_of_ble_eq_true rfl) hd) (wX12_breaths (z_dl rfl hd) hq153) oX12_breaths lmL_120 iX12_breaths z_ob0 rfl _ rfl rfl (Nat.le_of_ble_eq_true rfl) dL_law_1017 ?_
  refine z_aload_n dL_law_1020 rfl rfl (by decide) ?_
  refine z_aload_n dL_law_1021 rfl rfl (by decide) ?_
  refine z_iload_n dL_law_1022 rfl rfl ?_
  refine z_iconst dL_law_1023 kc_1 ?_
  refine z_iadd dL_law_1024 ?_
  refine z_sald g150 dL_law_1025 ?_
  refine z_aload_n dL_law_1026 rfl rfl (by decide) ?_
  refine z_iload_n dL_law_1027 rfl rfl ?_
  refine z_iconst dL_law_1028 kc_2 ?_
  refine z_iadd dL_law_1029 ?_
  refine z_sald g151 dL_law_1030 ?_
  refine z_aload_n dL_law_1031 rfl rfl (by decide) ?_
  refine z_iload_n dL_law_1032 rfl rfl ?_
  refine z_iconst dL_law_1033 kc_3 ?_
  refine z_iadd dL_law_1034 ?_
  refine z_sald g152 dL_law_1035 ?_
  obtain ⟨q154, hq154, hf⟩ := z_b_el hf
  refine y_cVi (av := [.int (G.2.2.2.2.2.2 (p3 + (1 : Int32)).toNatClampNeg), .int (G.2.2.2.2.2.2 (p3 + (2 : Int32)).toNatClampNeg), .int (G.2.2.2.2.2.2 (p3 + (3 : Int32)).toNatClampNeg)]) (Nat.le_trans (Nat.le_of_ble_eq_true rfl) hd) (wX13_breaths (z_dl rfl hd) hq154) oX13_breaths lmL_123 iX13_breaths z_ob102 rfl _ rfl rfl (Nat.le_of_ble_eq_true rfl) dL_law_1036 ?_
  refine z_icmp_eq (tgt := 1317) dL_law_1039 (by decide) (fun c155 => ?_) (fun c155 => ?_)
  · have hf := z_if_t hf c155
    refine y_iinc (fun t156 => [some (.ref 100000), some (.ref 0), some (.ref 102), some (.int t156)]) dL_law_1317 rfl kc_6 (by decide) (fun _ => rfl) (fun t156 et156 => ?_)
    have hf := z_l_el hf et156
    refine z_goto (tgt := 18) dL_law_1320 (by decide) ?_
    cases hf
    exact hk
  · have hf := z_if_f hf c155
    refine z_iconst dL_law_1042 kc_0 ?_
    cases hf
    exact z_iret (hk _) ⟨_, rfl, rfl⟩ dL_law_1043
def fL_c26 (xs : Nat → Int32) (L : Nat) (p3 : Int32) (I : Nat → Nat → Int32) (R : Nat → Nat → Nat) : Option ((Int32 × (Nat → Nat → Int32) × (Nat → Nat → Nat)) ⊕ Int32) :=
  z_g (¬ ((p3 + (1 : Int32)) < 0 ∨ L ≤ (p3 + (1 : Int32)).toNatClampNeg)) (z_g (¬ ((p3 + (2 : Int32)) < 0 ∨ L ≤ (p3 + (2 : Int32)).toNatClampNeg)) (z_b (fX12_clock 0 (xs (p3 + (1 : Int32)).toNatClampNeg) (xs (p3 + (2 : Int32)).toNatClampNeg) I R) (fun q159 => z_b (fX13_clock 102 (xs (p3 + (1 : Int32)).toNatClampNeg) (xs (p3 + (2 : Int32)).toNatClampNeg) I R) (fun q160 => if q159 = q160 then (z_l (p3 + (6 : Int32)) (fun t162 => some (.inl (t162, I, R)))) else (some (.inr (0 : Int32)))))))
set_option maxRecDepth 20000 in
theorem wL_c26 {G : z_G} {d : Nat} {Q : Option Value → z_S → z_H → Prop} {p3 : Int32} {I : Nat → Nat → Int32} {R : Nat → Nat → Nat} {o : (Int32 × (Nat → Nat → Int32) × (Nat → Nat → Nat)) ⊕ Int32} (hd : 68 ≤ d) (hf : fL_c26 G.2.2.2.2.2.2 G.2.2.2.2.2.1 p3 I R = some o) (hk : z_or (fun s : Int32 × (Nat → Nat → Int32) × (Nat → Nat → Nat) => z_W G eL_law d 0 0 18 [some (.ref 100000), some (.ref 0), some (.ref 102), some (.int s.1)] [] z_SH (s.2.1, s.2.2) Q) (fun v : Int32 => ∀ h, Q (some (.int v)) z_SH h) o) : z_W G eL_law d 0 0 1044 [some (.ref 100000), some (.ref 0), some (.ref 102), some (.int p3)] [] z_SH (I, R) Q := by
  unfold fL_c26 at hf
  refine z_aload_n dL_law_1044 rfl rfl (by decide) ?_
  refine z_aload_n dL_law_1045 rfl rfl (by decide) ?_
  refine z_iload_n dL_law_1046 rfl rfl ?_
  refine z_iconst dL_law_1047 kc_1 ?_
  refine z_iadd dL_law_1048 ?_
  obtain ⟨g157, hf⟩ := z_g_el hf
  refine z_sald g157 dL_law_1049 ?_
  refine z_aload_n dL_law_1050 rfl rfl (by decide) ?_
  refine z_iload_n dL_law_1051 rfl rfl ?_
  refine z_iconst dL_law_1052 kc_2 ?_
  refine z_iadd dL_law_1053 ?_
  obtain ⟨g158, hf⟩ := z_g_el hf
  refine z_sald g158 dL_law_1054 ?_
  obtain ⟨q159, hq159, hf⟩ := z_b_el hf
  refine y_cVi (av := [.int (G.2.2.2.2.2.2 (p3 + (1 : Int32)).toNatClampNeg), .int (G.2.2.2.2.2.2 (p3 + (2 : Int32)).toNatClampNeg)]) (Nat.le_trans (Nat.le_of_ble_eq_true rfl) hd) (wX12_clock (z_dl rfl hd) hq159) oX12_clock lmL_124 iX12_clock z_ob0 rfl _ rfl rfl (Nat.le_of_ble_eq_true rfl) dL_law_1055 ?_
  refine z_aload_n dL_law_1058 rfl rfl (by decide) ?_
  refine z_aload_n dL_law_1059 rfl rfl (by decide) ?_
  refine z_iload_n dL_law_1060 rfl rfl ?_
  refine z_iconst dL_law_1061 kc_1 ?_
  refine z_iadd dL_law_1062 ?_
  refine z_sald g157 dL_law_1063 ?_
  refine z_aload_n dL_law_1064 rfl rfl (by decide) ?_
  refine z_iload_n dL_law_1065 rfl rfl ?_
  refine z_iconst dL_law_1066 kc_2 ?_
  refine z_iadd dL_law_1067 ?_
  refine z_sald g158 dL_law_1068 ?_
  obtain ⟨q160, hq160, hf⟩ := z_b_el hf
  refine y_cVi (av := [.int (G.2.2.2.2.2.2 (p3 + (1 : Int32)).toNatClampNeg), .int (G.2.2.2.2.2.2 (p3 + (2 : Int32)).toNatClampNeg)]) (Nat.le_trans (Nat.le_of_ble_eq_true rfl) hd) (wX13_clock (z_dl rfl hd) hq160) oX13_clock lmL_127 iX13_clock z_ob102 rfl _ rfl rfl (Nat.le_of_ble_eq_true rfl) dL_law_1069 ?_
  refine z_icmp_eq (tgt := 1317) dL_law_1072 (by decide) (fun c161 => ?_) (fun c161 => ?_)
  · have hf := z_if_t hf c161
    refine y_iinc (fun t162 => [some (.ref 100000), some (.ref 0), some (.ref 102), some (.int t162)]) dL_law_1317 rfl kc_6 (by decide) (fun _ => rfl) (fun t162 et162 => ?_)
    have hf := z_l_el hf et162
    refine z_goto (tgt := 18) dL_law_1320 (by decide) ?_
    cases hf
    exact hk
  · have hf := z_if_f hf c161
    refine z_iconst dL_law_1075 kc_0 ?_
    cases hf
    exact z_iret (hk _) ⟨_, rfl, rfl⟩ dL_law_1076
def fL_c27 (xs : Nat → Int32) (L : Nat) (p3 : Int32) (I : Nat → Nat → Int32) (R : Nat → Nat → Nat) : Option ((Int32 × (Nat → Nat → Int32) × (Nat → Nat → Nat)) ⊕ Int32) :=
  z_g (¬ ((p3 + (1 : Int32)) < 0 ∨ L ≤ (p3 + (1 : Int32)).toNatClampNeg)) (z_g (¬ ((p3 + (2 : Int32)) < 0 ∨ L ≤ (p3 + (2 : Int32)).toNatClampNeg)) (z_b (fX12_meet 0 (xs (p3 + (1 : Int32)).toNatClampNeg) (xs (p3 + (2 : Int32)).toNatClampNeg) I R) (fun q165 => z_b (fX13_meet 102 (xs (p3 + (1 : Int32)).toNatClampNeg) (xs (p3 + (2 : Int32)).toNatClampNeg) I R) (fun q166 => if q165 = q166 then (z_l (p3 + (6 : Int32)) (fun t168 => some (.inl (t168, I, R)))) else (some (.inr (0 : Int32)))))))
set_option maxRecDepth 20000 in
theorem wL_c27 {G : z_G} {d : Nat} {Q : Option Value → z_S → z_H → Prop} {p3 : Int32} {I : Nat → Nat → Int32} {R : Nat → Nat → Nat} {o : (Int32 × (Nat → Nat → Int32) × (Nat → Nat → Nat)) ⊕ Int32} (hd : 68 ≤ d) (hf : fL_c27 G.2.2.2.2.2.2 G.2.2.2.2.2.1 p3 I R = some o) (hk : z_or (fun s : Int32 × (Nat → Nat → Int32) × (Nat → Nat → Nat) => z_W G eL_law d 0 0 18 [some (.ref 100000), some (.ref 0), some (.ref 102), some (.int s.1)] [] z_SH (s.2.1, s.2.2) Q) (fun v : Int32 => ∀ h, Q (some (.int v)) z_SH h) o) : z_W G eL_law d 0 0 1077 [some (.ref 100000), some (.ref 0), some (.ref 102), some (.int p3)] [] z_SH (I, R) Q := by
  unfold fL_c27 at hf
  refine z_aload_n dL_law_1077 rfl rfl (by decide) ?_
  refine z_aload_n dL_law_1078 rfl rfl (by decide) ?_
  refine z_iload_n dL_law_1079 rfl rfl ?_
  refine z_iconst dL_law_1080 kc_1 ?_
  refine z_iadd dL_law_1081 ?_
  obtain ⟨g163, hf⟩ := z_g_el hf
  refine z_sald g163 dL_law_1082 ?_
  refine z_aload_n dL_law_1083 rfl rfl (by decide) ?_
  refine z_iload_n dL_law_1084 rfl rfl ?_
  refine z_iconst dL_law_1085 kc_2 ?_
  refine z_iadd dL_law_1086 ?_
  obtain ⟨g164, hf⟩ := z_g_el hf
  refine z_sald g164 dL_law_1087 ?_
  obtain ⟨q165, hq165, hf⟩ := z_b_el hf
  refine y_cVi (av := [.int (G.2.2.2.2.2.2 (p3 + (1 : Int32)).toNatClampNeg), .int (G.2.2.2.2.2.2 (p3 + (2 : Int32)).toNatClampNeg)]) (Nat.le_trans (Nat.le_of_ble_eq_true rfl) hd) (wX12_meet (z_dl rfl hd) hq165) oX12_meet lmL_128 iX12_meet z_ob0 rfl _ rfl rfl (Nat.le_of_ble_eq_true rfl) dL_law_1088 ?_
  refine z_aload_n dL_law_1091 rfl rfl (by decide) ?_
  refine z_aload_n dL_law_1092 rfl rfl (by decide) ?_
  refine z_iload_n dL_law_1093 rfl rfl ?_
  refine z_iconst dL_law_1094 kc_1 ?_
  refine z_iadd dL_law_1095 ?_
  refine z_sald g163 dL_law_1096 ?_
  refine z_aload_n dL_law_1097 rfl rfl (by decide) ?_
  refine z_iload_n dL_law_1098 rfl rfl ?_
  refine z_iconst dL_law_1099 kc_2 ?_
  refine z_iadd dL_law_1100 ?_
  refine z_sald g164 dL_law_1101 ?_
  obtain ⟨q166, hq166, hf⟩ := z_b_el hf
  refine y_cVi (av := [.int (G.2.2.2.2.2.2 (p3 + (1 : Int32)).toNatClampNeg), .int (G.2.2.2.2.2.2 (p3 + (2 : Int32)).toNatClampNeg)]) (Nat.le_trans (Nat.le_of_ble_eq_true rfl) hd) (wX13_meet (z_dl rfl hd) hq166) oX13_meet lmL_131 iX13_meet z_ob102 rfl _ rfl rfl (Nat.le_of_ble_eq_true rfl) dL_law_1102 ?_
  refine z_icmp_eq (tgt := 1317) dL_law_1105 (by decide) (fun c167 => ?_) (fun c167 => ?_)
  · have hf := z_if_t hf c167
    refine y_iinc (fun t168 => [some (.ref 100000), some (.ref 0), some (.ref 102), some (.int t168)]) dL_law_1317 rfl kc_6 (by decide) (fun _ => rfl) (fun t168 et168 => ?_)
    have hf := z_l_el hf et168
    refine z_goto (tgt := 18) dL_law_1320 (by decide) ?_
    cases hf
    exact hk
  · have hf := z_if_f hf c167
    refine z_iconst dL_law_1108 kc_0 ?_
    cases hf
    exact z_iret (hk _) ⟨_, rfl, rfl⟩ dL_law_1109
def fL_c28 (xs : Nat → Int32) (L : Nat) (p3 : Int32) (I : Nat → Nat → Int32) (R : Nat → Nat → Nat) : Option ((Int32 × (Nat → Nat → Int32) × (Nat → Nat → Nat)) ⊕ Int32) :=
  z_g (¬ ((p3 + (1 : Int32)) < 0 ∨ L ≤ (p3 + (1 : Int32)).toNatClampNeg)) (z_g (¬ ((p3 + (2 : Int32)) < 0 ∨ L ≤ (p3 + (2 : Int32)).toNatClampNeg)) (z_g (¬ ((p3 + (3 : Int32)) < 0 ∨ L ≤ (p3 + (3 : Int32)).toNatClampNeg)) (z_b (fX12_agree 0 (xs (p3 + (1 : Int32)).toNatClampNeg) (xs (p3 + (2 : Int32)).toNatClampNeg) (xs (p3 + (3 : Int32)).toNatClampNeg) I R) (fun q172 => z_b (fX13_agree 102 (xs (p3 + (1 : Int32)).toNatClampNeg) (xs (p3 + (2 : Int32)).toNatClampNeg) (xs (p3 + (3 : Int32)).toNatClampNeg) I R) (fun q173 => if q172 = q173 then (z_l (p3 + (6 : Int32)) (fun t175 => some (.inl (t175, I, R)))) else (some (.inr (0 : Int32))))))))
set_option maxRecDepth 20000 in
theorem wL_c28 {G : z_G} {d : Nat} {Q : Option Value → z_S → z_H → Prop} {p3 : Int32} {I : Nat → Nat → Int32} {R : Nat → Nat → Nat} {o : (Int32 × (Nat → Nat → Int32) × (Nat → Nat → Nat)) ⊕ Int32} (hd : 68 ≤ d) (hf : fL_c28 G.2.2.2.2.2.2 G.2.2.2.2.2.1 p3 I R = some o) (hk : z_or (fun s : Int32 × (Nat → Nat → Int32) × (Nat → Nat → Nat) => z_W G eL_law d 0 0 18 [some (.ref 100000), some (.ref 0), some (.ref 102), some (.int s.1)] [] z_SH (s.2.1, s.2.2) Q) (fun v : Int32 => ∀ h, Q (some (.int v)) z_SH h) o) : z_W G eL_law d 0 0 1110 [some (.ref 100000), some (.ref 0), some (.ref 102), some (.int p3)] [] z_SH (I, R) Q := by
  unfold fL_c28 at hf
  refine z_aload_n dL_law_1110 rfl rfl (by decide) ?_
  refine z_aload_n dL_law_1111 rfl rfl (by decide) ?_
  refine z_iload_n dL_law_1112 rfl rfl ?_
  refine z_iconst dL_law_1113 kc_1 ?_
  refine z_iadd dL_law_1114 ?_
  obtain ⟨g169, hf⟩ := z_g_el hf
  refine z_sald g169 dL_law_1115 ?_
  refine z_aload_n dL_law_1116 rfl rfl (by decide) ?_
  refine z_iload_n dL_law_1117 rfl rfl ?_
  refine z_iconst dL_law_1118 kc_2 ?_
  refine z_iadd dL_law_1119 ?_
  obtain ⟨g170, hf⟩ := z_g_el hf
  refine z_sald g170 dL_law_1120 ?_
  refine z_aload_n dL_law_1121 rfl rfl (by decide) ?_
  refine z_iload_n dL_law_1122 rfl rfl ?_
  refine z_iconst dL_law_1123 kc_3 ?_
  refine z_iadd dL_law_1124 ?_
  obtain ⟨g171, hf⟩ := z_g_el hf
  refine z_sald g171 dL_law_1125 ?_
  obtain ⟨q172, hq172, hf⟩ := z_b_el hf
  refine y_cVi (av := [.int (G.2.2.2.2.2.2 (p3 + (1 : Int32)).toNatClampNeg), .int (G.2.2.2.2.2.2 (p3 + (2 : Int32)).toNatClampNeg), .int (G.2.2.2.2.2.2 (p3 + (3 : Int32)).toNatClampNeg)]) (Nat.le_trans (Nat.le_of_ble_eq_true rfl) hd) (wX12_agree (z_dl rfl hd) hq172) oX12_agree lmL_132 iX12_agree z_ob0 rfl _ rfl rfl (Nat.le_of_ble_eq_true rfl) dL_law_1126 ?_
  refine z_aload_n dL_law_1129 rfl rfl (by decide) ?_
  refine z_aload_n dL_law_1130 rfl rfl (by decide) ?_
  refine z_iload_n dL_law_1131 rfl rfl ?_
  refine z_iconst dL_law_1132 kc_1 ?_
  refine z_iadd dL_law_1133 ?_
  refine z_sald g169 dL_law_1134 ?_
  refine z_aload_n dL_law_1135 rfl rfl (by decide) ?_
  refine z_iload_n dL_law_1136 rfl rfl ?_
  refine z_iconst dL_law_1137 kc_2 ?_
  refine z_iadd dL_law_1138 ?_
  refine z_sald g170 dL_law_1139 ?_
  refine z_aload_n dL_law_1140 rfl rfl (by decide) ?_
  refine z_iload_n dL_law_1141 rfl rfl ?_
  refine z_iconst dL_law_1142 kc_3 ?_
  refine z_iadd dL_law_1143 ?_
  refine z_sald g171 dL_law_1144 ?_
  obtain ⟨q173, hq173, hf⟩ := z_b_el hf
  refine y_cVi (av := [.int (G.2.2.2.2.2.2 (p3 + (1 : Int32)).toNatClampNeg), .int (G.2.2.2.2.2.2 (p3 + (2 : Int32)).toNatClampNeg), .int (G.2.2.2.2.2.2 (p3 + (3 : Int32)).toNatClampNeg)]) (Nat.le_trans (Nat.le_of_ble_eq_true rfl) hd) (wX13_agree (z_dl rfl hd) hq173) oX13_agree lmL_135 iX13_agree z_ob102 rfl _ rfl rfl (Nat.le_of_ble_eq_true rfl) dL_law_1145 ?_
  refine z_icmp_eq (tgt := 1317) dL_law_1148 (by decide) (fun c174 => ?_) (fun c174 => ?_)
  · have hf := z_if_t hf c174
    refine y_iinc (fun t175 => [some (.ref 100000), some (.ref 0), some (.ref 102), some (.int t175)]) dL_law_1317 rfl kc_6 (by decide) (fun _ => rfl) (fun t175 et175 => ?_)
    have hf := z_l_el hf et175
    refine z_goto (tgt := 18) dL_law_1320 (by decide) ?_
    cases hf
    exact hk
  · have hf := z_if_f hf c174
    refine z_iconst dL_law_1151 kc_0 ?_
    cases hf
    exact z_iret (hk _) ⟨_, rfl, rfl⟩ dL_law_1152
def fL_c29 (xs : Nat → Int32) (L : Nat) (p3 : Int32) (I : Nat → Nat → Int32) (R : Nat → Nat → Nat) : Option ((Int32 × (Nat → Nat → Int32) × (Nat → Nat → Nat)) ⊕ Int32) :=
  z_g (¬ ((p3 + (1 : Int32)) < 0 ∨ L ≤ (p3 + (1 : Int32)).toNatClampNeg)) (z_b (fX12_leads 0 (xs (p3 + (1 : Int32)).toNatClampNeg) I R) (fun q177 => z_b (fX13_leads 102 (xs (p3 + (1 : Int32)).toNatClampNeg) q177.2 R) (fun q178 => if q177.1 = q178 then (z_l (p3 + (6 : Int32)) (fun t180 => some (.inl (t180, q177.2, R)))) else (some (.inr (0 : Int32))))))
set_option maxRecDepth 20000 in
theorem wL_c29 {G : z_G} {d : Nat} {Q : Option Value → z_S → z_H → Prop} {p3 : Int32} {I : Nat → Nat → Int32} {R : Nat → Nat → Nat} {o : (Int32 × (Nat → Nat → Int32) × (Nat → Nat → Nat)) ⊕ Int32} (hd : 68 ≤ d) (hf : fL_c29 G.2.2.2.2.2.2 G.2.2.2.2.2.1 p3 I R = some o) (hk : z_or (fun s : Int32 × (Nat → Nat → Int32) × (Nat → Nat → Nat) => z_W G eL_law d 0 0 18 [some (.ref 100000), some (.ref 0), some (.ref 102), some (.int s.1)] [] z_SH (s.2.1, s.2.2) Q) (fun v : Int32 => ∀ h, Q (some (.int v)) z_SH h) o) : z_W G eL_law d 0 0 1153 [some (.ref 100000), some (.ref 0), some (.ref 102), some (.int p3)] [] z_SH (I, R) Q := by
  unfold fL_c29 at hf
  refine z_aload_n dL_law_1153 rfl rfl (by decide) ?_
  refine z_aload_n dL_law_1154 rfl rfl (by decide) ?_
  refine z_iload_n dL_law_1155 rfl rfl ?_
  refine z_iconst dL_law_1156 kc_1 ?_
  refine z_iadd dL_law_1157 ?_
  obtain ⟨g176, hf⟩ := z_g_el hf
  refine z_sald g176 dL_law_1158 ?_
  obtain ⟨q177, hq177, hf⟩ := z_b_el hf
  refine y_cVi (av := [.int (G.2.2.2.2.2.2 (p3 + (1 : Int32)).toNatClampNeg)]) (Nat.le_trans (Nat.le_of_ble_eq_true rfl) hd) (wX12_leads (z_dl rfl hd) hq177) oX12_leads lmL_136 iX12_leads z_ob0 rfl _ rfl rfl (Nat.le_of_ble_eq_true rfl) dL_law_1159 ?_
  refine z_aload_n dL_law_1162 rfl rfl (by decide) ?_
  refine z_aload_n dL_law_1163 rfl rfl (by decide) ?_
  refine z_iload_n dL_law_1164 rfl rfl ?_
  refine z_iconst dL_law_1165 kc_1 ?_
  refine z_iadd dL_law_1166 ?_
  refine z_sald g176 dL_law_1167 ?_
  obtain ⟨q178, hq178, hf⟩ := z_b_el hf
  refine y_cVi (av := [.int (G.2.2.2.2.2.2 (p3 + (1 : Int32)).toNatClampNeg)]) (Nat.le_trans (Nat.le_of_ble_eq_true rfl) hd) (wX13_leads (z_dl rfl hd) hq178) oX13_leads lmL_139 iX13_leads z_ob102 rfl _ rfl rfl (Nat.le_of_ble_eq_true rfl) dL_law_1168 ?_
  refine z_icmp_eq (tgt := 1317) dL_law_1171 (by decide) (fun c179 => ?_) (fun c179 => ?_)
  · have hf := z_if_t hf c179
    refine y_iinc (fun t180 => [some (.ref 100000), some (.ref 0), some (.ref 102), some (.int t180)]) dL_law_1317 rfl kc_6 (by decide) (fun _ => rfl) (fun t180 et180 => ?_)
    have hf := z_l_el hf et180
    refine z_goto (tgt := 18) dL_law_1320 (by decide) ?_
    cases hf
    exact hk
  · have hf := z_if_f hf c179
    refine z_iconst dL_law_1174 kc_0 ?_
    cases hf
    exact z_iret (hk _) ⟨_, rfl, rfl⟩ dL_law_1175
def fL_c30 (xs : Nat → Int32) (L : Nat) (p3 : Int32) (I : Nat → Nat → Int32) (R : Nat → Nat → Nat) : Option ((Int32 × (Nat → Nat → Int32) × (Nat → Nat → Nat)) ⊕ Int32) :=
  z_g (¬ ((p3 + (1 : Int32)) < 0 ∨ L ≤ (p3 + (1 : Int32)).toNatClampNeg)) (z_b (fX12_groups 0 (xs (p3 + (1 : Int32)).toNatClampNeg) I R) (fun q182 => z_b (fX13_groups 102 (xs (p3 + (1 : Int32)).toNatClampNeg) q182.2 R) (fun q183 => if q182.1 = q183 then (z_l (p3 + (6 : Int32)) (fun t185 => some (.inl (t185, q182.2, R)))) else (some (.inr (0 : Int32))))))
set_option maxRecDepth 20000 in
theorem wL_c30 {G : z_G} {d : Nat} {Q : Option Value → z_S → z_H → Prop} {p3 : Int32} {I : Nat → Nat → Int32} {R : Nat → Nat → Nat} {o : (Int32 × (Nat → Nat → Int32) × (Nat → Nat → Nat)) ⊕ Int32} (hd : 68 ≤ d) (hf : fL_c30 G.2.2.2.2.2.2 G.2.2.2.2.2.1 p3 I R = some o) (hk : z_or (fun s : Int32 × (Nat → Nat → Int32) × (Nat → Nat → Nat) => z_W G eL_law d 0 0 18 [some (.ref 100000), some (.ref 0), some (.ref 102), some (.int s.1)] [] z_SH (s.2.1, s.2.2) Q) (fun v : Int32 => ∀ h, Q (some (.int v)) z_SH h) o) : z_W G eL_law d 0 0 1176 [some (.ref 100000), some (.ref 0), some (.ref 102), some (.int p3)] [] z_SH (I, R) Q := by
  unfold fL_c30 at hf
  refine z_aload_n dL_law_1176 rfl rfl (by decide) ?_
  refine z_aload_n dL_law_1177 rfl rfl (by decide) ?_
  refine z_iload_n dL_law_1178 rfl rfl ?_
  refine z_iconst dL_law_1179 kc_1 ?_
  refine z_iadd dL_law_1180 ?_
  obtain ⟨g181, hf⟩ := z_g_el hf
  refine z_sald g181 dL_law_1181 ?_
  obtain ⟨q182, hq182, hf⟩ := z_b_el hf
  refine y_cVi (av := [.int (G.2.2.2.2.2.2 (p3 + (1 : Int32)).toNatClampNeg)]) (Nat.le_trans (Nat.le_of_ble_eq_true rfl) hd) (wX12_groups (z_dl rfl hd) hq182) oX12_groups lmL_140 iX12_groups z_ob0 rfl _ rfl rfl (Nat.le_of_ble_eq_true rfl) dL_law_1182 ?_
  refine z_aload_n dL_law_1185 rfl rfl (by decide) ?_
  refine z_aload_n dL_law_1186 rfl rfl (by decide) ?_
  refine z_iload_n dL_law_1187 rfl rfl ?_
  refine z_iconst dL_law_1188 kc_1 ?_
  refine z_iadd dL_law_1189 ?_
  refine z_sald g181 dL_law_1190 ?_
  obtain ⟨q183, hq183, hf⟩ := z_b_el hf
  refine y_cVi (av := [.int (G.2.2.2.2.2.2 (p3 + (1 : Int32)).toNatClampNeg)]) (Nat.le_trans (Nat.le_of_ble_eq_true rfl) hd) (wX13_groups (z_dl rfl hd) hq183) oX13_groups lmL_143 iX13_groups z_ob102 rfl _ rfl rfl (Nat.le_of_ble_eq_true rfl) dL_law_1191 ?_
  refine z_icmp_eq (tgt := 1317) dL_law_1194 (by decide) (fun c184 => ?_) (fun c184 => ?_)
  · have hf := z_if_t hf c184
    refine y_iinc (fun t185 => [some (.ref 100000), some (.ref 0), some (.ref 102), some (.int t185)]) dL_law_1317 rfl kc_6 (by decide) (fun _ => rfl) (fun t185 et185 => ?_)
    have hf := z_l_el hf et185
    refine z_goto (tgt := 18) dL_law_1320 (by decide) ?_
    cases hf
    exact hk
  · have hf := z_if_f hf c184
    refine z_iconst dL_law_1197 kc_0 ?_
    cases hf
    exact z_iret (hk _) ⟨_, rfl, rfl⟩ dL_law_1198
def fL_c31 (xs : Nat → Int32) (L : Nat) (p3 : Int32) (I : Nat → Nat → Int32) (R : Nat → Nat → Nat) : Option ((Int32 × (Nat → Nat → Int32) × (Nat → Nat → Nat)) ⊕ Int32) :=
  z_g (¬ ((p3 + (1 : Int32)) < 0 ∨ L ≤ (p3 + (1 : Int32)).toNatClampNeg)) (z_b (fX12_order 0 (xs (p3 + (1 : Int32)).toNatClampNeg) I R) (fun q187 => z_b (fX13_order 102 (xs (p3 + (1 : Int32)).toNatClampNeg) I R) (fun q188 => if q187 = q188 then (z_l (p3 + (6 : Int32)) (fun t190 => some (.inl (t190, I, R)))) else (some (.inr (0 : Int32))))))
set_option maxRecDepth 20000 in
theorem wL_c31 {G : z_G} {d : Nat} {Q : Option Value → z_S → z_H → Prop} {p3 : Int32} {I : Nat → Nat → Int32} {R : Nat → Nat → Nat} {o : (Int32 × (Nat → Nat → Int32) × (Nat → Nat → Nat)) ⊕ Int32} (hd : 68 ≤ d) (hf : fL_c31 G.2.2.2.2.2.2 G.2.2.2.2.2.1 p3 I R = some o) (hk : z_or (fun s : Int32 × (Nat → Nat → Int32) × (Nat → Nat → Nat) => z_W G eL_law d 0 0 18 [some (.ref 100000), some (.ref 0), some (.ref 102), some (.int s.1)] [] z_SH (s.2.1, s.2.2) Q) (fun v : Int32 => ∀ h, Q (some (.int v)) z_SH h) o) : z_W G eL_law d 0 0 1199 [some (.ref 100000), some (.ref 0), some (.ref 102), some (.int p3)] [] z_SH (I, R) Q := by
  unfold fL_c31 at hf
  refine z_aload_n dL_law_1199 rfl rfl (by decide) ?_
  refine z_aload_n dL_law_1200 rfl rfl (by decide) ?_
  refine z_iload_n dL_law_1201 rfl rfl ?_
  refine z_iconst dL_law_1202 kc_1 ?_
  refine z_iadd dL_law_1203 ?_
  obtain ⟨g186, hf⟩ := z_g_el hf
  refine z_sald g186 dL_law_1204 ?_
  obtain ⟨q187, hq187, hf⟩ := z_b_el hf
  refine y_cVi (av := [.int (G.2.2.2.2.2.2 (p3 + (1 : Int32)).toNatClampNeg)]) (Nat.le_trans (Nat.le_of_ble_eq_true rfl) hd) (wX12_order (z_dl rfl hd) hq187) oX12_order lmL_144 iX12_order z_ob0 rfl _ rfl rfl (Nat.le_of_ble_eq_true rfl) dL_law_1205 ?_
  refine z_aload_n dL_law_1208 rfl rfl (by decide) ?_
  refine z_aload_n dL_law_1209 rfl rfl (by decide) ?_
  refine z_iload_n dL_law_1210 rfl rfl ?_
  refine z_iconst dL_law_1211 kc_1 ?_
  refine z_iadd dL_law_1212 ?_
  refine z_sald g186 dL_law_1213 ?_
  obtain ⟨q188, hq188, hf⟩ := z_b_el hf
  refine y_cVi (av := [.int (G.2.2.2.2.2.2 (p3 + (1 : Int32)).toNatClampNeg)]) (Nat.le_trans (Nat.le_of_ble_eq_true rfl) hd) (wX13_order (z_dl rfl hd) hq188) oX13_order lmL_147 iX13_order z_ob102 rfl _ rfl rfl (Nat.le_of_ble_eq_true rfl) dL_law_1214 ?_
  refine z_icmp_eq (tgt := 1317) dL_law_1217 (by decide) (fun c189 => ?_) (fun c189 => ?_)
  · have hf := z_if_t hf c189
    refine y_iinc (fun t190 => [some (.ref 100000), some (.ref 0), some (.ref 102), some (.int t190)]) dL_law_1317 rfl kc_6 (by decide) (fun _ => rfl) (fun t190 et190 => ?_)
    have hf := z_l_el hf et190
    refine z_goto (tgt := 18) dL_law_1320 (by decide) ?_
    cases hf
    exact hk
  · have hf := z_if_f hf c189
    refine z_iconst dL_law_1220 kc_0 ?_
    cases hf
    exact z_iret (hk _) ⟨_, rfl, rfl⟩ dL_law_1221
def fL_c32 (xs : Nat → Int32) (L : Nat) (p3 : Int32) (I : Nat → Nat → Int32) (R : Nat → Nat → Nat) : Option ((Int32 × (Nat → Nat → Int32) × (Nat → Nat → Nat)) ⊕ Int32) :=
  z_g (¬ ((p3 + (1 : Int32)) < 0 ∨ L ≤ (p3 + (1 : Int32)).toNatClampNeg)) (z_b (fX12_seed 0 (xs (p3 + (1 : Int32)).toNatClampNeg) I R) (fun q192 => z_b (fX13_seed 102 (xs (p3 + (1 : Int32)).toNatClampNeg) q192.2 R) (fun q193 => if q192.1 = q193.1 then (z_l (p3 + (6 : Int32)) (fun t195 => some (.inl (t195, q193.2, R)))) else (some (.inr (0 : Int32))))))
set_option maxRecDepth 20000 in
theorem wL_c32 {G : z_G} {d : Nat} {Q : Option Value → z_S → z_H → Prop} {p3 : Int32} {I : Nat → Nat → Int32} {R : Nat → Nat → Nat} {o : (Int32 × (Nat → Nat → Int32) × (Nat → Nat → Nat)) ⊕ Int32} (hd : 68 ≤ d) (hf : fL_c32 G.2.2.2.2.2.2 G.2.2.2.2.2.1 p3 I R = some o) (hk : z_or (fun s : Int32 × (Nat → Nat → Int32) × (Nat → Nat → Nat) => z_W G eL_law d 0 0 18 [some (.ref 100000), some (.ref 0), some (.ref 102), some (.int s.1)] [] z_SH (s.2.1, s.2.2) Q) (fun v : Int32 => ∀ h, Q (some (.int v)) z_SH h) o) : z_W G eL_law d 0 0 1222 [some (.ref 100000), some (.ref 0), some (.ref 102), some (.int p3)] [] z_SH (I, R) Q := by
  unfold fL_c32 at hf
  refine z_aload_n dL_law_1222 rfl rfl (by decide) ?_
  refine z_aload_n dL_law_1223 rfl rfl (by decide) ?_
  refine z_iload_n dL_law_1224 rfl rfl ?_
  refine z_iconst dL_law_1225 kc_1 ?_
  refine z_iadd dL_law_1226 ?_
  obtain ⟨g191, hf⟩ := z_g_el hf
  refine z_sald g191 dL_law_1227 ?_
  obtain ⟨q192, hq192, hf⟩ := z_b_el hf
  refine y_cVi (av := [.int (G.2.2.2.2.2.2 (p3 + (1 : Int32)).toNatClampNeg)]) (Nat.le_trans (Nat.le_of_ble_eq_true rfl) hd) (wX12_seed (z_dl rfl hd) hq192) oX12_seed lmL_148 iX12_seed z_ob0 rfl _ rfl rfl (Nat.le_of_ble_eq_true rfl) dL_law_1228 ?_
  refine z_aload_n dL_law_1231 rfl rfl (by decide) ?_
  refine z_aload_n dL_law_1232 rfl rfl (by decide) ?_
  refine z_iload_n dL_law_1233 rfl rfl ?_
  refine z_iconst dL_law_1234 kc_1 ?_
  refine z_iadd dL_law_1235 ?_
  refine z_sald g191 dL_law_1236 ?_
  obtain ⟨q193, hq193, hf⟩ := z_b_el hf
  refine y_cVi (av := [.int (G.2.2.2.2.2.2 (p3 + (1 : Int32)).toNatClampNeg)]) (Nat.le_trans (Nat.le_of_ble_eq_true rfl) hd) (wX13_seed (z_dl rfl hd) hq193) oX13_seed lmL_151 iX13_seed z_ob102 rfl _ rfl rfl (Nat.le_of_ble_eq_true rfl) dL_law_1237 ?_
  refine z_icmp_eq (tgt := 1317) dL_law_1240 (by decide) (fun c194 => ?_) (fun c194 => ?_)
  · have hf := z_if_t hf c194
    refine y_iinc (fun t195 => [some (.ref 100000), some (.ref 0), some (.ref 102), some (.int t195)]) dL_law_1317 rfl kc_6 (by decide) (fun _ => rfl) (fun t195 et195 => ?_)
    have hf := z_l_el hf et195
    refine z_goto (tgt := 18) dL_law_1320 (by decide) ?_
    cases hf
    exact hk
  · have hf := z_if_f hf c194
    refine z_iconst dL_law_1243 kc_0 ?_
    cases hf
    exact z_iret (hk _) ⟨_, rfl, rfl⟩ dL_law_1244
def fL_c33 (xs : Nat → Int32) (L : Nat) (p3 : Int32) (I : Nat → Nat → Int32) (R : Nat → Nat → Nat) : Option ((Int32 × (Nat → Nat → Int32) × (Nat → Nat → Nat)) ⊕ Int32) :=
  z_b (fX12_keep 0 I R) (fun q196 => z_b (fX13_keep 102 q196.2 R) (fun q197 => if q196.1 = q197.1 then (z_l (p3 + (6 : Int32)) (fun t199 => some (.inl (t199, q197.2, R)))) else (some (.inr (0 : Int32)))))
set_option maxRecDepth 20000 in
theorem wL_c33 {G : z_G} {d : Nat} {Q : Option Value → z_S → z_H → Prop} {p3 : Int32} {I : Nat → Nat → Int32} {R : Nat → Nat → Nat} {o : (Int32 × (Nat → Nat → Int32) × (Nat → Nat → Nat)) ⊕ Int32} (hd : 68 ≤ d) (hf : fL_c33 G.2.2.2.2.2.2 G.2.2.2.2.2.1 p3 I R = some o) (hk : z_or (fun s : Int32 × (Nat → Nat → Int32) × (Nat → Nat → Nat) => z_W G eL_law d 0 0 18 [some (.ref 100000), some (.ref 0), some (.ref 102), some (.int s.1)] [] z_SH (s.2.1, s.2.2) Q) (fun v : Int32 => ∀ h, Q (some (.int v)) z_SH h) o) : z_W G eL_law d 0 0 1245 [some (.ref 100000), some (.ref 0), some (.ref 102), some (.int p3)] [] z_SH (I, R) Q := by
  unfold fL_c33 at hf
  refine z_aload_n dL_law_1245 rfl rfl (by decide) ?_
  obtain ⟨q196, hq196, hf⟩ := z_b_el hf
  refine y_cVi (av := []) (Nat.le_trans (Nat.le_of_ble_eq_true rfl) hd) (wX12_keep (z_dl rfl hd) hq196) oX12_keep lmL_152 iX12_keep z_ob0 rfl _ rfl rfl (Nat.le_of_ble_eq_true rfl) dL_law_1246 ?_
  refine z_aload_n dL_law_1249 rfl rfl (by decide) ?_
  obtain ⟨q197, hq197, hf⟩ := z_b_el hf
  refine y_cVi (av := []) (Nat.le_trans (Nat.le_of_ble_eq_true rfl) hd) (wX13_keep (z_dl rfl hd) hq197) oX13_keep lmL_155 iX13_keep z_ob102 rfl _ rfl rfl (Nat.le_of_ble_eq_true rfl) dL_law_1250 ?_
  refine z_icmp_eq (tgt := 1317) dL_law_1253 (by decide) (fun c198 => ?_) (fun c198 => ?_)
  · have hf := z_if_t hf c198
    refine y_iinc (fun t199 => [some (.ref 100000), some (.ref 0), some (.ref 102), some (.int t199)]) dL_law_1317 rfl kc_6 (by decide) (fun _ => rfl) (fun t199 et199 => ?_)
    have hf := z_l_el hf et199
    refine z_goto (tgt := 18) dL_law_1320 (by decide) ?_
    cases hf
    exact hk
  · have hf := z_if_f hf c198
    refine z_iconst dL_law_1256 kc_0 ?_
    cases hf
    exact z_iret (hk _) ⟨_, rfl, rfl⟩ dL_law_1257
def fL_c34 (xs : Nat → Int32) (L : Nat) (p3 : Int32) (I : Nat → Nat → Int32) (R : Nat → Nat → Nat) : Option ((Int32 × (Nat → Nat → Int32) × (Nat → Nat → Nat)) ⊕ Int32) :=
  z_b (fX12_undo 0 I R) (fun q200 => z_b (fX13_undo 102 q200.2 R) (fun q201 => if q200.1 = q201.1 then (z_l (p3 + (6 : Int32)) (fun t203 => some (.inl (t203, q201.2, R)))) else (some (.inr (0 : Int32)))))
set_option maxRecDepth 20000 in
theorem wL_c34 {G : z_G} {d : Nat} {Q : Option Value → z_S → z_H → Prop} {p3 : Int32} {I : Nat → Nat → Int32} {R : Nat → Nat → Nat} {o : (Int32 × (Nat → Nat → Int32) × (Nat → Nat → Nat)) ⊕ Int32} (hd : 68 ≤ d) (hf : fL_c34 G.2.2.2.2.2.2 G.2.2.2.2.2.1 p3 I R = some o) (hk : z_or (fun s : Int32 × (Nat → Nat → Int32) × (Nat → Nat → Nat) => z_W G eL_law d 0 0 18 [some (.ref 100000), some (.ref 0), some (.ref 102), some (.int s.1)] [] z_SH (s.2.1, s.2.2) Q) (fun v : Int32 => ∀ h, Q (some (.int v)) z_SH h) o) : z_W G eL_law d 0 0 1258 [some (.ref 100000), some (.ref 0), some (.ref 102), some (.int p3)] [] z_SH (I, R) Q := by
  unfold fL_c34 at hf
  refine z_aload_n dL_law_1258 rfl rfl (by decide) ?_
  obtain ⟨q200, hq200, hf⟩ := z_b_el hf
  refine y_cVi (av := []) (Nat.le_trans (Nat.le_of_ble_eq_true rfl) hd) (wX12_undo (z_dl rfl hd) hq200) oX12_undo lmL_156 iX12_undo z_ob0 rfl _ rfl rfl (Nat.le_of_ble_eq_true rfl) dL_law_1259 ?_
  refine z_aload_n dL_law_1262 rfl rfl (by decide) ?_
  obtain ⟨q201, hq201, hf⟩ := z_b_el hf
  refine y_cVi (av := []) (Nat.le_trans (Nat.le_of_ble_eq_true rfl) hd) (wX13_undo (z_dl rfl hd) hq201) oX13_undo lmL_160 iX13_undo z_ob102 rfl _ rfl rfl (Nat.le_of_ble_eq_true rfl) dL_law_1263 ?_
  refine z_icmp_eq (tgt := 1317) dL_law_1266 (by decide) (fun c202 => ?_) (fun c202 => ?_)
  · have hf := z_if_t hf c202
    refine y_iinc (fun t203 => [some (.ref 100000), some (.ref 0), some (.ref 102), some (.int t203)]) dL_law_1317 rfl kc_6 (by decide) (fun _ => rfl) (fun t203 et203 => ?_)
    have hf := z_l_el hf et203
    refine z_goto (tgt := 18) dL_law_1320 (by decide) ?_
    cases hf
    exact hk
  · have hf := z_if_f hf c202
    refine z_iconst dL_law_1269 kc_0 ?_
    cases hf
    exact z_iret (hk _) ⟨_, rfl, rfl⟩ dL_law_1270
def fL_c35 (xs : Nat → Int32) (L : Nat) (p3 : Int32) (I : Nat → Nat → Int32) (R : Nat → Nat → Nat) : Option ((Int32 × (Nat → Nat → Int32) × (Nat → Nat → Nat)) ⊕ Int32) :=
  z_g (¬ ((p3 + (1 : Int32)) < 0 ∨ L ≤ (p3 + (1 : Int32)).toNatClampNeg)) (z_b (fX12_check 0 (xs (p3 + (1 : Int32)).toNatClampNeg) I R) (fun q205 => z_b (fX13_check 102 (xs (p3 + (1 : Int32)).toNatClampNeg) q205.2 R) (fun q206 => if q205.1 = q206.1 then (z_l (p3 + (6 : Int32)) (fun t208 => some (.inl (t208, q206.2, R)))) else (some (.inr (0 : Int32))))))
set_option maxRecDepth 20000 in
theorem wL_c35 {G : z_G} {d : Nat} {Q : Option Value → z_S → z_H → Prop} {p3 : Int32} {I : Nat → Nat → Int32} {R : Nat → Nat → Nat} {o : (Int32 × (Nat → Nat → Int32) × (Nat → Nat → Nat)) ⊕ Int32} (hd : 68 ≤ d) (hf : fL_c35 G.2.2.2.2.2.2 G.2.2.2.2.2.1 p3 I R = some o) (hk : z_or (fun s : Int32 × (Nat → Nat → Int32) × (Nat → Nat → Nat) => z_W G eL_law d 0 0 18 [some (.ref 100000), some (.ref 0), some (.ref 102), some (.int s.1)] [] z_SH (s.2.1, s.2.2) Q) (fun v : Int32 => ∀ h, Q (some (.int v)) z_SH h) o) : z_W G eL_law d 0 0 1271 [some (.ref 100000), some (.ref 0), some (.ref 102), some (.int p3)] [] z_SH (I, R) Q := by
  unfold fL_c35 at hf
  refine z_aload_n dL_law_1271 rfl rfl (by decide) ?_
  refine z_aload_n dL_law_1272 rfl rfl (by decide) ?_
  refine z_iload_n dL_law_1273 rfl rfl ?_
  refine z_iconst dL_law_1274 kc_1 ?_
  refine z_iadd dL_law_1275 ?_
  obtain ⟨g204, hf⟩ := z_g_el hf
  refine z_sald g204 dL_law_1276 ?_
  obtain ⟨q205, hq205, hf⟩ := z_b_el hf
  refine y_cVi (av := [.int (G.2.2.2.2.2.2 (p3 + (1 : Int32)).toNatClampNeg)]) (Nat.le_trans (Nat.le_of_ble_eq_true rfl) hd) (wX12_check (z_dl rfl hd) hq205) oX12_check lmL_161 iX12_check z_ob0 rfl _ rfl rfl (Nat.le_of_ble_eq_true rfl) dL_law_1277 ?_
  refine z_aload_n dL_law_1280 rfl rfl (by decide) ?_
  refine z_aload_n dL_law_1281 rfl rfl (by decide) ?_
  refine z_iload_n dL_law_1282 rfl rfl ?_
  refine z_iconst dL_law_1283 kc_1 ?_
  refine z_iadd dL_law_1284 ?_
  refine z_sald g204 dL_law_1285 ?_
  obtain ⟨q206, hq206, hf⟩ := z_b_el hf
  refine y_cVi (av := [.int (G.2.2.2.2.2.2 (p3 + (1 : Int32)).toNatClampNeg)]) (Nat.le_trans (Nat.le_of_ble_eq_true rfl) hd) (wX13_check (z_dl rfl hd) hq206) oX13_check lmL_164 iX13_check z_ob102 rfl _ rfl rfl (Nat.le_of_ble_eq_true rfl) dL_law_1286 ?_
  refine z_icmp_eq (tgt := 1317) dL_law_1289 (by decide) (fun c207 => ?_) (fun c207 => ?_)
  · have hf := z_if_t hf c207
    refine y_iinc (fun t208 => [some (.ref 100000), some (.ref 0), some (.ref 102), some (.int t208)]) dL_law_1317 rfl kc_6 (by decide) (fun _ => rfl) (fun t208 et208 => ?_)
    have hf := z_l_el hf et208
    refine z_goto (tgt := 18) dL_law_1320 (by decide) ?_
    cases hf
    exact hk
  · have hf := z_if_f hf c207
    refine z_iconst dL_law_1292 kc_0 ?_
    cases hf
    exact z_iret (hk _) ⟨_, rfl, rfl⟩ dL_law_1293
def fL_c36 (xs : Nat → Int32) (L : Nat) (p3 : Int32) (I : Nat → Nat → Int32) (R : Nat → Nat → Nat) : Option ((Int32 × (Nat → Nat → Int32) × (Nat → Nat → Nat)) ⊕ Int32) :=
  z_g (¬ ((p3 + (1 : Int32)) < 0 ∨ L ≤ (p3 + (1 : Int32)).toNatClampNeg)) (z_b (fX12_count 0 (xs (p3 + (1 : Int32)).toNatClampNeg) I R) (fun q210 => z_b (fX13_count 102 (xs (p3 + (1 : Int32)).toNatClampNeg) I R) (fun q211 => if q210 = q211 then (z_l (p3 + (6 : Int32)) (fun t213 => some (.inl (t213, I, R)))) else (some (.inr (0 : Int32))))))
set_option maxRecDepth 20000 in
theorem wL_c36 {G : z_G} {d : Nat} {Q : Option Value → z_S → z_H → Prop} {p3 : Int32} {I : Nat → Nat → Int32} {R : Nat → Nat → Nat} {o : (Int32 × (Nat → Nat → Int32) × (Nat → Nat → Nat)) ⊕ Int32} (hd : 68 ≤ d) (hf : fL_c36 G.2.2.2.2.2.2 G.2.2.2.2.2.1 p3 I R = some o) (hk : z_or (fun s : Int32 × (Nat → Nat → Int32) × (Nat → Nat → Nat) => z_W G eL_law d 0 0 18 [some (.ref 100000), some (.ref 0), some (.ref 102), some (.int s.1)] [] z_SH (s.2.1, s.2.2) Q) (fun v : Int32 => ∀ h, Q (some (.int v)) z_SH h) o) : z_W G eL_law d 0 0 1294 [some (.ref 100000), some (.ref 0), some (.ref 102), some (.int p3)] [] z_SH (I, R) Q := by
  unfold fL_c36 at hf
  refine z_aload_n dL_law_1294 rfl rfl (by decide) ?_
  refine z_aload_n dL_law_1295 rfl rfl (by decide) ?_
  refine z_iload_n dL_law_1296 rfl rfl ?_
  refine z_iconst dL_law_1297 kc_1 ?_
  refine z_iadd dL_law_1298 ?_
  obtain ⟨g209, hf⟩ := z_g_el hf
  refine z_sald g209 dL_law_1299 ?_
  obtain ⟨q210, hq210, hf⟩ := z_b_el hf
  refine y_cVi (av := [.int (G.2.2.2.2.2.2 (p3 + (1 : Int32)).toNatClampNeg)]) (Nat.le_trans (Nat.le_of_ble_eq_true rfl) hd) (wX12_count (z_dl rfl hd) hq210) oX12_count lmL_165 iX12_count z_ob0 rfl _ rfl rfl (Nat.le_of_ble_eq_true rfl) dL_law_1300 ?_
  refine z_aload_n dL_law_1303 rfl rfl (by decide) ?_
  refine z_aload_n dL_law_1304 rfl rfl (by decide) ?_
  refine z_iload_n dL_law_1305 rfl rfl ?_
  refine z_iconst dL_law_1306 kc_1 ?_
  refine z_iadd dL_law_1307 ?_
  refine z_sald g209 dL_law_1308 ?_
  obtain ⟨q211, hq211, hf⟩ := z_b_el hf
  refine y_cVi (av := [.int (G.2.2.2.2.2.2 (p3 + (1 : Int32)).toNatClampNeg)]) (Nat.le_trans (Nat.le_of_ble_eq_true rfl) hd) (wX13_count (z_dl rfl hd) hq211) oX13_count lmL_168 iX13_count z_ob102 rfl _ rfl rfl (Nat.le_of_ble_eq_true rfl) dL_law_1309 ?_
  refine z_icmp_eq (tgt := 1317) dL_law_1312 (by decide) (fun c212 => ?_) (fun c212 => ?_)
  · have hf := z_if_t hf c212
    refine y_iinc (fun t213 => [some (.ref 100000), some (.ref 0), some (.ref 102), some (.int t213)]) dL_law_1317 rfl kc_6 (by decide) (fun _ => rfl) (fun t213 et213 => ?_)
    have hf := z_l_el hf et213
    refine z_goto (tgt := 18) dL_law_1320 (by decide) ?_
    cases hf
    exact hk
  · have hf := z_if_f hf c212
    refine z_iconst dL_law_1315 kc_0 ?_
    cases hf
    exact z_iret (hk _) ⟨_, rfl, rfl⟩ dL_law_1316
def fL_c37 (xs : Nat → Int32) (L : Nat) (p3 : Int32) (I : Nat → Nat → Int32) (R : Nat → Nat → Nat) : Option ((Int32 × (Nat → Nat → Int32) × (Nat → Nat → Nat)) ⊕ Int32) :=
  z_l (p3 + (6 : Int32)) (fun t214 => some (.inl (t214, I, R)))
set_option maxRecDepth 20000 in
theorem wL_c37 {G : z_G} {d : Nat} {Q : Option Value → z_S → z_H → Prop} {p3 : Int32} {I : Nat → Nat → Int32} {R : Nat → Nat → Nat} {o : (Int32 × (Nat → Nat → Int32) × (Nat → Nat → Nat)) ⊕ Int32} (hd : 68 ≤ d) (hf : fL_c37 G.2.2.2.2.2.2 G.2.2.2.2.2.1 p3 I R = some o) (hk : z_or (fun s : Int32 × (Nat → Nat → Int32) × (Nat → Nat → Nat) => z_W G eL_law d 0 0 18 [some (.ref 100000), some (.ref 0), some (.ref 102), some (.int s.1)] [] z_SH (s.2.1, s.2.2) Q) (fun v : Int32 => ∀ h, Q (some (.int v)) z_SH h) o) : z_W G eL_law d 0 0 1317 [some (.ref 100000), some (.ref 0), some (.ref 102), some (.int p3)] [] z_SH (I, R) Q := by
  unfold fL_c37 at hf
  refine y_iinc (fun t214 => [some (.ref 100000), some (.ref 0), some (.ref 102), some (.int t214)]) dL_law_1317 rfl kc_6 (by decide) (fun _ => rfl) (fun t214 et214 => ?_)
  have hf := z_l_el hf et214
  refine z_goto (tgt := 18) dL_law_1320 (by decide) ?_
  cases hf
  exact hk
def fL_b (xs : Nat → Int32) (L : Nat) : (Int32 × (Nat → Nat → Int32) × (Nat → Nat → Nat)) → Option ((Int32 × (Nat → Nat → Int32) × (Nat → Nat → Nat)) ⊕ Int32) :=
  fun s => (fun (p3 : Int32) (I : Nat → Nat → Int32) (R : Nat → Nat → Nat) => if ((Int32.ofNat L) - (6 : Int32)) < p3 then (some (.inr (1 : Int32))) else (z_g (¬ (p3 < 0 ∨ L ≤ p3.toNatClampNeg)) (if ((xs p3.toNatClampNeg) &&& (63 : Int32)) = (0 : Int32) then (fL_c0 xs L p3 I R) else (if ((xs p3.toNatClampNeg) &&& (63 : Int32)) = (1 : Int32) then (fL_c1 xs L p3 I R) else (if ((xs p3.toNatClampNeg) &&& (63 : Int32)) = (2 : Int32) then (fL_c2 xs L p3 I R) else (if ((xs p3.toNatClampNeg) &&& (63 : Int32)) = (3 : Int32) then (fL_c3 xs L p3 I R) else (if ((xs p3.toNatClampNeg) &&& (63 : Int32)) = (4 : Int32) then (fL_c4 xs L p3 I R) else (if ((xs p3.toNatClampNeg) &&& (63 : Int32)) = (5 : Int32) then (fL_c5 xs L p3 I R) else (if ((xs p3.toNatClampNeg) &&& (63 : Int32)) = (6 : Int32) then (fL_c6 xs L p3 I R) else (if ((xs p3.toNatClampNeg) &&& (63 : Int32)) = (7 : Int32) then (fL_c7 xs L p3 I R) else (if ((xs p3.toNatClampNeg) &&& (63 : Int32)) = (8 : Int32) then (fL_c8 xs L p3 I R) else (if ((xs p3.toNatClampNeg) &&& (63 : Int32)) = (9 : Int32) then (fL_c9 xs L p3 I R) else (if ((xs p3.toNatClampNeg) &&& (63 : Int32)) = (10 : Int32) then (fL_c10 xs L p3 I R) else (if ((xs p3.toNatClampNeg) &&& (63 : Int32)) = (11 : Int32) then (fL_c11 xs L p3 I R) else (if ((xs p3.toNatClampNeg) &&& (63 : Int32)) = (12 : Int32) then (fL_c12 xs L p3 I R) else (if ((xs p3.toNatClampNeg) &&& (63 : Int32)) = (13 : Int32) then (fL_c13 xs L p3 I R) else (if ((xs p3.toNatClampNeg) &&& (63 : Int32)) = (14 : Int32) then (fL_c14 xs L p3 I R) else (if ((xs p3.toNatClampNeg) &&& (63 : Int32)) = (15 : Int32) then (fL_c15 xs L p3 I R) else (if ((xs p3.toNatClampNeg) &&& (63 : Int32)) = (16 : Int32) then (fL_c16 xs L p3 I R) else (if ((xs p3.toNatClampNeg) &&& (63 : Int32)) = (17 : Int32) then (fL_c17 xs L p3 I R) else (if ((xs p3.toNatClampNeg) &&& (63 : Int32)) = (18 : Int32) then (fL_c18 xs L p3 I R) else (if ((xs p3.toNatClampNeg) &&& (63 : Int32)) = (19 : Int32) then (fL_c19 xs L p3 I R) else (if ((xs p3.toNatClampNeg) &&& (63 : Int32)) = (20 : Int32) then (fL_c20 xs L p3 I R) else (if ((xs p3.toNatClampNeg) &&& (63 : Int32)) = (21 : Int32) then (fL_c21 xs L p3 I R) else (if ((xs p3.toNatClampNeg) &&& (63 : Int32)) = (22 : Int32) then (fL_c22 xs L p3 I R) else (if ((xs p3.toNatClampNeg) &&& (63 : Int32)) = (23 : Int32) then (fL_c23 xs L p3 I R) else (if ((xs p3.toNatClampNeg) &&& (63 : Int32)) = (24 : Int32) then (fL_c24 xs L p3 I R) else (if ((xs p3.toNatClampNeg) &&& (63 : Int32)) = (25 : Int32) then (fL_c25 xs L p3 I R) else (if ((xs p3.toNatClampNeg) &&& (63 : Int32)) = (26 : Int32) then (fL_c26 xs L p3 I R) else (if ((xs p3.toNatClampNeg) &&& (63 : Int32)) = (27 : Int32) then (fL_c27 xs L p3 I R) else (if ((xs p3.toNatClampNeg) &&& (63 : Int32)) = (28 : Int32) then (fL_c28 xs L p3 I R) else (if ((xs p3.toNatClampNeg) &&& (63 : Int32)) = (29 : Int32) then (fL_c29 xs L p3 I R) else (if ((xs p3.toNatClampNeg) &&& (63 : Int32)) = (30 : Int32) then (fL_c30 xs L p3 I R) else (if ((xs p3.toNatClampNeg) &&& (63 : Int32)) = (31 : Int32) then (fL_c31 xs L p3 I R) else (if ((xs p3.toNatClampNeg) &&& (63 : Int32)) = (32 : Int32) then (fL_c32 xs L p3 I R) else (if ((xs p3.toNatClampNeg) &&& (63 : Int32)) = (33 : Int32) then (fL_c33 xs L p3 I R) else (if ((xs p3.toNatClampNeg) &&& (63 : Int32)) = (34 : Int32) then (fL_c34 xs L p3 I R) else (if ((xs p3.toNatClampNeg) &&& (63 : Int32)) = (35 : Int32) then (fL_c35 xs L p3 I R) else (if ((xs p3.toNatClampNeg) &&& (63 : Int32)) = (36 : Int32) then (fL_c36 xs L p3 I R) else (fL_c37 xs L p3 I R)))))))))))))))))))))))))))))))))))))))) s.1 s.2.1 s.2.2
set_option maxRecDepth 20000 in
theorem wL_b {G : z_G} {d : Nat} {Q : Option Value → z_S → z_H → Prop} (hd : 68 ≤ d) : ∀ (s : Int32 × (Nat → Nat → Int32) × (Nat → Nat → Nat)) (o : (Int32 × (Nat → Nat → Int32) × (Nat → Nat → Nat)) ⊕ Int32), fL_b G.2.2.2.2.2.2 G.2.2.2.2.2.1 s = some o → z_or (fun s : Int32 × (Nat → Nat → Int32) × (Nat → Nat → Nat) => z_W G eL_law d 0 0 18 [some (.ref 100000), some (.ref 0), some (.ref 102), some (.int s.1)] [] z_SH (s.2.1, s.2.2) Q) (fun v : Int32 => ∀ h, Q (some (.int v)) z_SH h) o → (fun s : Int32 × (Nat → Nat → Int32) × (Nat → Nat → Nat) => z_W G eL_law d 0 0 18 [some (.ref 100000), some (.ref 0), some (.ref 102), some (.int s.1)] [] z_SH (s.2.1, s.2.2) Q) s := by
  rintro ⟨p3, I, R⟩ o hf hk
  show z_W G eL_law d 0 0 18 [some (.ref 100000), some (.ref 0), some (.ref 102), some (.int p3)] [] z_SH (I, R) Q
  unfold fL_b at hf
  dsimp only at hf
  refine z_iload_n dL_law_18 rfl rfl ?_
  refine z_aload_n dL_law_19 rfl rfl (by decide) ?_
  refine z_slen dL_law_20 ?_
  refine z_bipush dL_law_21 kb_6 ?_
  refine z_isub dL_law_23 ?_
  refine z_icmp_gt (tgt := 1323) dL_law_24 (by decide) (fun c0 => ?_) (fun c0 => ?_)
  · have hf := z_if_t hf c0
    refine z_iconst dL_law_1323 kc_1 ?_
    cases hf
    exact z_iret (hk _) ⟨_, rfl, rfl⟩ dL_law_1324
  · have hf := z_if_f hf c0
    refine z_aload_n dL_law_27 rfl rfl (by decide) ?_
    refine z_iload_n dL_law_28 rfl rfl ?_
    obtain ⟨g1, hf⟩ := z_g_el hf
    refine z_sald g1 dL_law_29 ?_
    refine z_bipush dL_law_30 kb_63 ?_
    refine z_iand dL_law_32 ?_
    generalize ((G.2.2.2.2.2.2 p3.toNatClampNeg) &&& (63 : Int32)) = kx at hf ⊢
    by_cases c1000 : kx = (0 : Int32)
    · exact z_tabIn (off := 163) (tgt := 196) dL_law_33 (by rw [c1000]; decide) (by rw [c1000]; decide) (by rw [c1000]; rfl) (by decide) (wL_c0 hd (z_if_t hf c1000) hk)
    replace hf := z_if_f hf c1000
    by_cases c1001 : kx = (1 : Int32)
    · exact z_tabIn (off := 226) (tgt := 259) dL_law_33 (by rw [c1001]; decide) (by rw [c1001]; decide) (by rw [c1001]; rfl) (by decide) (wL_c1 hd (z_if_t hf c1001) hk)
    replace hf := z_if_f hf c1001
    by_cases c1002 : kx = (2 : Int32)
    · exact z_tabIn (off := 249) (tgt := 282) dL_law_33 (by rw [c1002]; decide) (by rw [c1002]; decide) (by rw [c1002]; rfl) (by decide) (wL_c2 hd (z_if_t hf c1002) hk)
    replace hf := z_if_f hf c1002
    by_cases c1003 : kx = (3 : Int32)
    · exact z_tabIn (off := 272) (tgt := 305) dL_law_33 (by rw [c1003]; decide) (by rw [c1003]; decide) (by rw [c1003]; rfl) (by decide) (wL_c3 hd (z_if_t hf c1003) hk)
    replace hf := z_if_f hf c1003
    by_cases c1004 : kx = (4 : Int32)
    · exact z_tabIn (off := 285) (tgt := 318) dL_law_33 (by rw [c1004]; decide) (by rw [c1004]; decide) (by rw [c1004]; rfl) (by decide) (wL_c4 hd (z_if_t hf c1004) hk)
    replace hf := z_if_f hf c1004
    by_cases c1005 : kx = (5 : Int32)
    · exact z_tabIn (off := 348) (tgt := 381) dL_law_33 (by rw [c1005]; decide) (by rw [c1005]; decide) (by rw [c1005]; rfl) (by decide) (wL_c5 hd (z_if_t hf c1005) hk)
    replace hf := z_if_f hf c1005
    by_cases c1006 : kx = (6 : Int32)
    · exact z_tabIn (off := 371) (tgt := 404) dL_law_33 (by rw [c1006]; decide) (by rw [c1006]; decide) (by rw [c1006]; rfl) (by decide) (wL_c6 hd (z_if_t hf c1006) hk)
    replace hf := z_if_f hf c1006
    by_cases c1007 : kx = (7 : Int32)
    · exact z_tabIn (off := 404) (tgt := 437) dL_law_33 (by rw [c1007]; decide) (by rw [c1007]; decide) (by rw [c1007]; rfl) (by decide) (wL_c7 hd (z_if_t hf c1007) hk)
    replace hf := z_if_f hf c1007
    by_cases c1008 : kx = (8 : Int32)
    · exact z_tabIn (off := 427) (tgt := 460) dL_law_33 (by rw [c1008]; decide) (by rw [c1008]; decide) (by rw [c1008]; rfl) (by decide) (wL_c8 hd (z_if_t hf c1008) hk)
    replace hf := z_if_f hf c1008
    by_cases c1009 : kx = (9 : Int32)
    · exact z_tabIn (off := 460) (tgt := 493) dL_law_33 (by rw [c1009]; decide) (by rw [c1009]; decide) (by rw [c1009]; rfl) (by decide) (wL_c9 hd (z_if_t hf c1009) hk)
    replace hf := z_if_f hf c1009
    by_cases c1010 : kx = (10 : Int32)
    · exact z_tabIn (off := 493) (tgt := 526) dL_law_33 (by rw [c1010]; decide) (by rw [c1010]; decide) (by rw [c1010]; rfl) (by decide) (wL_c10 hd (z_if_t hf c1010) hk)
    replace hf := z_if_f hf c1010
    by_cases c1011 : kx = (11 : Int32)
    · exact z_tabIn (off := 516) (tgt := 549) dL_law_33 (by rw [c1011]; decide) (by rw [c1011]; decide) (by rw [c1011]; rfl) (by decide) (wL_c11 hd (z_if_t hf c1011) hk)
    replace hf := z_if_f hf c1011
    by_cases c1012 : kx = (12 : Int32)
    · exact z_tabIn (off := 559) (tgt := 592) dL_law_33 (by rw [c1012]; decide) (by rw [c1012]; decide) (by rw [c1012]; rfl) (by decide) (wL_c12 hd (z_if_t hf c1012) hk)
    replace hf := z_if_f hf c1012
    by_cases c1013 : kx = (13 : Int32)
    · exact z_tabIn (off := 592) (tgt := 625) dL_law_33 (by rw [c1013]; decide) (by rw [c1013]; decide) (by rw [c1013]; rfl) (by decide) (wL_c13 hd (z_if_t hf c1013) hk)
    replace hf := z_if_f hf c1013
    by_cases c1014 : kx = (14 : Int32)
    · exact z_tabIn (off := 615) (tgt := 648) dL_law_33 (by rw [c1014]; decide) (by rw [c1014]; decide) (by rw [c1014]; rfl) (by decide) (wL_c14 hd (z_if_t hf c1014) hk)
    replace hf := z_if_f hf c1014
    by_cases c1015 : kx = (15 : Int32)
    · exact z_tabIn (off := 648) (tgt := 681) dL_law_33 (by rw [c1015]; decide) (by rw [c1015]; decide) (by rw [c1015]; rfl) (by decide) (wL_c15 hd (z_if_t hf c1015) hk)
    replace hf := z_if_f hf c1015
    by_cases c1016 : kx = (16 : Int32)
    · exact z_tabIn (off := 671) (tgt := 704) dL_law_33 (by rw [c1016]; decide) (by rw [c1016]; decide) (by rw [c1016]; rfl) (by decide) (wL_c16 hd (z_if_t hf c1016) hk)
    replace hf := z_if_f hf c1016
    by_cases c1017 : kx = (17 : Int32)
    · exact z_tabIn (off := 714) (tgt := 747) dL_law_33 (by rw [c1017]; decide) (by rw [c1017]; decide) (by rw [c1017]; rfl) (by decide) (wL_c17 hd (z_if_t hf c1017) hk)
    replace hf := z_if_f hf c1017
    by_cases c1018 : kx = (18 : Int32)
    · exact z_tabIn (off := 757) (tgt := 790) dL_law_33 (by rw [c1018]; decide) (by rw [c1018]; decide) (by rw [c1018]; rfl) (by decide) (wL_c18 hd (z_if_t hf c1018) hk)
    replace hf := z_if_f hf c1018
    by_cases c1019 : kx = (19 : Int32)
    · exact z_tabIn (off := 790) (tgt := 823) dL_law_33 (by rw [c1019]; decide) (by rw [c1019]; decide) (by rw [c1019]; rfl) (by decide) (wL_c19 hd (z_if_t hf c1019) hk)
    replace hf := z_if_f hf c1019
    by_cases c1020 : kx = (20 : Int32)
    · exact z_tabIn (off := 813) (tgt := 846) dL_law_33 (by rw [c1020]; decide) (by rw [c1020]; decide) (by rw [c1020]; rfl) (by decide) (wL_c20 hd (z_if_t hf c1020) hk)
    replace hf := z_if_f hf c1020
    by_cases c1021 : kx = (21 : Int32)
    · exact z_tabIn (off := 836) (tgt := 869) dL_law_33 (by rw [c1021]; decide) (by rw [c1021]; decide) (by rw [c1021]; rfl) (by decide) (wL_c21 hd (z_if_t hf c1021) hk)
    replace hf := z_if_f hf c1021
    by_cases c1022 : kx = (22 : Int32)
    · exact z_tabIn (off := 879) (tgt := 912) dL_law_33 (by rw [c1022]; decide) (by rw [c1022]; decide) (by rw [c1022]; rfl) (by decide) (wL_c22 hd (z_if_t hf c1022) hk)
    replace hf := z_if_f hf c1022
    by_cases c1023 : kx = (23 : Int32)
    · exact z_tabIn (off := 902) (tgt := 935) dL_law_33 (by rw [c1023]; decide) (by rw [c1023]; decide) (by rw [c1023]; rfl) (by decide) (wL_c23 hd (z_if_t hf c1023) hk)
    replace hf := z_if_f hf c1023
    by_cases c1024 : kx = (24 : Int32)
    · exact z_tabIn (off := 935) (tgt := 968) dL_law_33 (by rw [c1024]; decide) (by rw [c1024]; decide) (by rw [c1024]; rfl) (by decide) (wL_c24 hd (z_if_t hf c1024) hk)
    replace hf := z_if_f hf c1024
    by_cases c1025 : kx = (25 : Int32)
    · exact z_tabIn (off := 968) (tgt := 1001) dL_law_33 (by rw [c1025]; decide) (by rw [c1025]; decide) (by rw [c1025]; rfl) (by decide) (wL_c25 hd (z_if_t hf c1025) hk)
    replace hf := z_if_f hf c1025
    by_cases c1026 : kx = (26 : Int32)
    · exact z_tabIn (off := 1011) (tgt := 1044) dL_law_33 (by rw [c1026]; decide) (by rw [c1026]; decide) (by rw [c1026]; rfl) (by decide) (wL_c26 hd (z_if_t hf c1026) hk)
    replace hf := z_if_f hf c1026
    by_cases c1027 : kx = (27 : Int32)
    · exact z_tabIn (off := 1044) (tgt := 1077) dL_law_33 (by rw [c1027]; decide) (by rw [c1027]; decide) (by rw [c1027]; rfl) (by decide) (wL_c27 hd (z_if_t hf c1027) hk)
    replace hf := z_if_f hf c1027
    by_cases c1028 : kx = (28 : Int32)
    · exact z_tabIn (off := 1077) (tgt := 1110) dL_law_33 (by rw [c1028]; decide) (by rw [c1028]; decide) (by rw [c1028]; rfl) (by decide) (wL_c28 hd (z_if_t hf c1028) hk)
    replace hf := z_if_f hf c1028
    by_cases c1029 : kx = (29 : Int32)
    · exact z_tabIn (off := 1120) (tgt := 1153) dL_law_33 (by rw [c1029]; decide) (by rw [c1029]; decide) (by rw [c1029]; rfl) (by decide) (wL_c29 hd (z_if_t hf c1029) hk)
    replace hf := z_if_f hf c1029
    by_cases c1030 : kx = (30 : Int32)
    · exact z_tabIn (off := 1143) (tgt := 1176) dL_law_33 (by rw [c1030]; decide) (by rw [c1030]; decide) (by rw [c1030]; rfl) (by decide) (wL_c30 hd (z_if_t hf c1030) hk)
    replace hf := z_if_f hf c1030
    by_cases c1031 : kx = (31 : Int32)
    · exact z_tabIn (off := 1166) (tgt := 1199) dL_law_33 (by rw [c1031]; decide) (by rw [c1031]; decide) (by rw [c1031]; rfl) (by decide) (wL_c31 hd (z_if_t hf c1031) hk)
    replace hf := z_if_f hf c1031
    by_cases c1032 : kx = (32 : Int32)
    · exact z_tabIn (off := 1189) (tgt := 1222) dL_law_33 (by rw [c1032]; decide) (by rw [c1032]; decide) (by rw [c1032]; rfl) (by decide) (wL_c32 hd (z_if_t hf c1032) hk)
    replace hf := z_if_f hf c1032
    by_cases c1033 : kx = (33 : Int32)
    · exact z_tabIn (off := 1212) (tgt := 1245) dL_law_33 (by rw [c1033]; decide) (by rw [c1033]; decide) (by rw [c1033]; rfl) (by decide) (wL_c33 hd (z_if_t hf c1033) hk)
    replace hf := z_if_f hf c1033
    by_cases c1034 : kx = (34 : Int32)
    · exact z_tabIn (off := 1225) (tgt := 1258) dL_law_33 (by rw [c1034]; decide) (by rw [c1034]; decide) (by rw [c1034]; rfl) (by decide) (wL_c34 hd (z_if_t hf c1034) hk)
    replace hf := z_if_f hf c1034
    by_cases c1035 : kx = (35 : Int32)
    · exact z_tabIn (off := 1238) (tgt := 1271) dL_law_33 (by rw [c1035]; decide) (by rw [c1035]; decide) (by rw [c1035]; rfl) (by decide) (wL_c35 hd (z_if_t hf c1035) hk)
    replace hf := z_if_f hf c1035
    by_cases c1036 : kx = (36 : Int32)
    · exact z_tabIn (off := 1261) (tgt := 1294) dL_law_33 (by rw [c1036]; decide) (by rw [c1036]; decide) (by rw [c1036]; rfl) (by decide) (wL_c36 hd (z_if_t hf c1036) hk)
    replace hf := z_if_f hf c1036
    have nc1000 : ¬ kx.toInt = 0 := z_toInt_ne c1000
    have nc1001 : ¬ kx.toInt = 1 := z_toInt_ne c1001
    have nc1002 : ¬ kx.toInt = 2 := z_toInt_ne c1002
    have nc1003 : ¬ kx.toInt = 3 := z_toInt_ne c1003
    have nc1004 : ¬ kx.toInt = 4 := z_toInt_ne c1004
    have nc1005 : ¬ kx.toInt = 5 := z_toInt_ne c1005
    have nc1006 : ¬ kx.toInt = 6 := z_toInt_ne c1006
    have nc1007 : ¬ kx.toInt = 7 := z_toInt_ne c1007
    have nc1008 : ¬ kx.toInt = 8 := z_toInt_ne c1008
    have nc1009 : ¬ kx.toInt = 9 := z_toInt_ne c1009
    have nc1010 : ¬ kx.toInt = 10 := z_toInt_ne c1010
    have nc1011 : ¬ kx.toInt = 11 := z_toInt_ne c1011
    have nc1012 : ¬ kx.toInt = 12 := z_toInt_ne c1012
    have nc1013 : ¬ kx.toInt = 13 := z_toInt_ne c1013
    have nc1014 : ¬ kx.toInt = 14 := z_toInt_ne c1014
    have nc1015 : ¬ kx.toInt = 15 := z_toInt_ne c1015
    have nc1016 : ¬ kx.toInt = 16 := z_toInt_ne c1016
    have nc1017 : ¬ kx.toInt = 17 := z_toInt_ne c1017
    have nc1018 : ¬ kx.toInt = 18 := z_toInt_ne c1018
    have nc1019 : ¬ kx.toInt = 19 := z_toInt_ne c1019
    have nc1020 : ¬ kx.toInt = 20 := z_toInt_ne c1020
    have nc1021 : ¬ kx.toInt = 21 := z_toInt_ne c1021
    have nc1022 : ¬ kx.toInt = 22 := z_toInt_ne c1022
    have nc1023 : ¬ kx.toInt = 23 := z_toInt_ne c1023
    have nc1024 : ¬ kx.toInt = 24 := z_toInt_ne c1024
    have nc1025 : ¬ kx.toInt = 25 := z_toInt_ne c1025
    have nc1026 : ¬ kx.toInt = 26 := z_toInt_ne c1026
    have nc1027 : ¬ kx.toInt = 27 := z_toInt_ne c1027
    have nc1028 : ¬ kx.toInt = 28 := z_toInt_ne c1028
    have nc1029 : ¬ kx.toInt = 29 := z_toInt_ne c1029
    have nc1030 : ¬ kx.toInt = 30 := z_toInt_ne c1030
    have nc1031 : ¬ kx.toInt = 31 := z_toInt_ne c1031
    have nc1032 : ¬ kx.toInt = 32 := z_toInt_ne c1032
    have nc1033 : ¬ kx.toInt = 33 := z_toInt_ne c1033
    have nc1034 : ¬ kx.toInt = 34 := z_toInt_ne c1034
    have nc1035 : ¬ kx.toInt = 35 := z_toInt_ne c1035
    have nc1036 : ¬ kx.toInt = 36 := z_toInt_ne c1036
    exact z_tabOut (tgt := 1317) dL_law_33 (by omega) (by decide) (wL_c37 hd hf hk)

set_option maxRecDepth 20000 in
def z_I0 : Nat → Nat → Int32 := (z_u (z_u (z_u (z_u (z_u (z_u (z_u (z_u (fun _ _ => 0) 3 4 (15 : Int32)) 3 5 (120 : Int32)) 62 2 (1 : Int32)) 72 2 (1 : Int32)) 82 2 (1 : Int32)) 103 81 (1 : Int32)) 102 3 (15 : Int32)) 102 4 (120 : Int32))
set_option maxRecDepth 20000 in
def z_R0 : Nat → Nat → Nat := (z_v (z_v (z_v (z_v (z_v (z_v (z_v (z_v (z_v (z_v (z_v (z_v (z_v (z_v (z_v (z_v (z_v (z_v (z_v (z_v (z_v (z_v (z_v (z_v (z_v (z_v (z_v (z_v (z_v (z_v (z_v (z_v (z_v (z_v (z_v (z_v (z_v (z_v (z_v (z_v (z_v (z_v (z_v (z_v (z_v (z_v (z_v (z_v (z_v (z_v (z_v (z_v (z_v (z_v (z_v (z_v (z_v (z_v (z_v (z_v (z_v (z_v (z_v (z_v (z_v (z_v (z_v (z_v (z_v (z_v (z_v (z_v (z_v (z_v (z_v (z_v (z_v (z_v (z_v (z_v (z_v (z_v (z_v (z_v (z_v (z_v (z_v (z_v (z_v (z_v (z_v (z_v (z_v (z_v (z_v (z_v (z_v (z_v (z_v (z_v (z_v (z_v (z_v (z_v (z_v (z_v (z_v (z_v (z_v (z_v (z_v (z_v (z_v (z_v (z_v (z_v (z_v (z_v (z_v (z_v (z_v (z_v (z_v (z_v (z_v (z_v (z_v (z_v (z_v (z_v (z_v (z_v (z_v (z_v (z_v (z_v (z_v (z_v (fun _ _ => 200000) 1 0 2) 0 0 1) 3 0 4) 5 0 6) 5 1 7) 5 2 8) 4 0 5) 9 0 10) 9 1 11) 9 2 12) 4 1 9) 13 0 14) 13 1 15) 13 2 16) 4 2 13) 17 0 18) 17 1 19) 17 2 20) 4 3 17) 21 0 22) 21 1 23) 21 2 24) 4 4 21) 25 0 26) 25 1 27) 25 2 28) 4 5 25) 29 0 30) 29 1 31) 29 2 32) 4 6 29) 33 0 34) 33 1 35) 33 2 36) 4 7 33) 37 0 38) 37 1 39) 37 2 40) 3 1 37) 41 0 42) 41 1 43) 41 3 44) 41 4 45) 41 5 46) 41 6 47) 41 8 48) 3 2 41) 49 0 50) 49 1 51) 49 3 52) 49 4 53) 49 5 54) 49 6 55) 49 8 56) 3 3 49) 0 1 3) 57 0 1) 57 1 37) 0 2 57) 58 0 1) 58 1 49) 0 3 58) 59 0 3) 59 1 60) 59 2 61) 0 4 59) 62 0 63) 63 0 64) 63 1 65) 63 2 66) 63 3 67) 63 4 68) 63 5 69) 63 6 70) 63 7 71) 0 5 62) 72 0 73) 73 0 74) 73 1 75) 73 2 76) 73 3 77) 73 4 78) 73 5 79) 73 6 80) 73 7 81) 0 6 72) 82 0 83) 83 0 84) 83 1 85) 83 2 86) 83 3 87) 83 4 88) 83 5 89) 83 6 90) 83 7 91) 0 7 82) 92 0 93) 0 9 92) 94 0 95) 94 1 96) 0 10 94) 97 0 98) 97 1 99) 97 2 100) 97 4 101) 0 11 97) 102 0 103) 102 1 104) 102 2 105) 102 5 106) 102 6 107) 102 7 108) 102 8 109) 102 9 110) 102 10 111) 102 21 112) 102 22 113) 102 23 114) 102 24 115) 102 25 116) 102 26 117) 102 27 118) 102 28 119) 102 29 120) 102 30 121) 102 31 122) 102 32 123) 102 33 124) 102 34 125) 102 35 126) 102 36 127) 102 37 128) 102 38 129) 102 39 130) 102 42 131) 102 52 132) 102 53 133) 102 56 134)
set_option maxRecDepth 100000 in
theorem wL_start {G : z_G} {d : Nat} (hd : 68 ≤ d) (h : z_lp (fL_b G.2.2.2.2.2.2 G.2.2.2.2.2.1) 300 ((0 : Int32), z_I0, z_R0) = some 1) : z_W G eL_law d 135 7914 0 [some (.ref 100000), none, none, none] [] [] ((fun _ _ => 0), fun _ _ => 200000) (fun r _ _ => r = some (.int 1)) := by
  have hz : z_Z 0 (fun _ _ => 0) (fun _ _ => 200000) := fun b _ => ⟨rfl, rfl⟩
  obtain ⟨d, rfl⟩ := z_pos (D := 67) hd
  show z_W G eL_law (d + 1) _ _ 0 _ [] (z_T 0) _ _
  refine x_new (kc := 134) (ks := 7902) (n := 0) (ci := 12) (N := 12) (by decide +kernel) kX12 rfl dvX12 lcL_7 hz dL_law_0 ?_
  have hz := z_Z_m hz (show 0 ≤ 1 by decide)
  refine z_dup dL_law_3 rfl ?_
  refine x_cI (kc := 33) (ks := 4101) (mc := 101) (ms := 3801) (n' := 102) (av := []) (cX12_init_0 (by omega) hz) oX12_init rfl lmL_9 iX12_init rfl rfl _ rfl rfl (Nat.le_of_ble_eq_true rfl) dL_law_4 ?_
  have hz := z_Z_m hz (show 1 ≤ 102 by decide)
  have hz := z_Z_u (a := 3) (k := 4) (v := (15 : Int32)) hz (by decide)
  have hz := z_Z_u (a := 3) (k := 5) (v := (120 : Int32)) hz (by decide)
  have hz := z_Z_u (a := 62) (k := 2) (v := (1 : Int32)) hz (by decide)
  have hz := z_Z_u (a := 72) (k := 2) (v := (1 : Int32)) hz (by decide)
  have hz := z_Z_u (a := 82) (k := 2) (v := (1 : Int32)) hz (by decide)
  have hz := z_Z_v (a := 1) (k := 0) (v := 2) hz (by decide)
  have hz := z_Z_v (a := 0) (k := 0) (v := 1) hz (by decide)
  have hz := z_Z_v (a := 3) (k := 0) (v := 4) hz (by decide)
  have hz := z_Z_v (a := 5) (k := 0) (v := 6) hz (by decide)
  have hz := z_Z_v (a := 5) (k := 1) (v := 7) hz (by decide)
  have hz := z_Z_v (a := 5) (k := 2) (v := 8) hz (by decide)
  have hz := z_Z_v (a := 4) (k := 0) (v := 5) hz (by decide)
  have hz := z_Z_v (a := 9) (k := 0) (v := 10) hz (by decide)
  have hz := z_Z_v (a := 9) (k := 1) (v := 11) hz (by decide)
  have hz := z_Z_v (a := 9) (k := 2) (v := 12) hz (by decide)
  have hz := z_Z_v (a := 4) (k := 1) (v := 9) hz (by decide)
  have hz := z_Z_v (a := 13) (k := 0) (v := 14) hz (by decide)
  have hz := z_Z_v (a := 13) (k := 1) (v := 15) hz (by decide)
  have hz := z_Z_v (a := 13) (k := 2) (v := 16) hz (by decide)
  have hz := z_Z_v (a := 4) (k := 2) (v := 13) hz (by decide)
  have hz := z_Z_v (a := 17) (k := 0) (v := 18) hz (by decide)
  have hz := z_Z_v (a := 17) (k := 1) (v := 19) hz (by decide)
  have hz := z_Z_v (a := 17) (k := 2) (v := 20) hz (by decide)
  have hz := z_Z_v (a := 4) (k := 3) (v := 17) hz (by decide)
  have hz := z_Z_v (a := 21) (k := 0) (v := 22) hz (by decide)
  have hz := z_Z_v (a := 21) (k := 1) (v := 23) hz (by decide)
  have hz := z_Z_v (a := 21) (k := 2) (v := 24) hz (by decide)
  have hz := z_Z_v (a := 4) (k := 4) (v := 21) hz (by decide)
  have hz := z_Z_v (a := 25) (k := 0) (v := 26) hz (by decide)
  have hz := z_Z_v (a := 25) (k := 1) (v := 27) hz (by decide)
  have hz := z_Z_v (a := 25) (k := 2) (v := 28) hz (by decide)
  have hz := z_Z_v (a := 4) (k := 5) (v := 25) hz (by decide)
  have hz := z_Z_v (a := 29) (k := 0) (v := 30) hz (by decide)
  have hz := z_Z_v (a := 29) (k := 1) (v := 31) hz (by decide)
  have hz := z_Z_v (a := 29) (k := 2) (v := 32) hz (by decide)
  have hz := z_Z_v (a := 4) (k := 6) (v := 29) hz (by decide)
  have hz := z_Z_v (a := 33) (k := 0) (v := 34) hz (by decide)
  have hz := z_Z_v (a := 33) (k := 1) (v := 35) hz (by decide)
  have hz := z_Z_v (a := 33) (k := 2) (v := 36) hz (by decide)
  have hz := z_Z_v (a := 4) (k := 7) (v := 33) hz (by decide)
  have hz := z_Z_v (a := 37) (k := 0) (v := 38) hz (by decide)
  have hz := z_Z_v (a := 37) (k := 1) (v := 39) hz (by decide)
  have hz := z_Z_v (a := 37) (k := 2) (v := 40) hz (by decide)
  have hz := z_Z_v (a := 3) (k := 1) (v := 37) hz (by decide)
  have hz := z_Z_v (a := 41) (k := 0) (v := 42) hz (by decide)
  have hz := z_Z_v (a := 41) (k := 1) (v := 43) hz (by decide)
  have hz := z_Z_v (a := 41) (k := 3) (v := 44) hz (by decide)
  have hz := z_Z_v (a := 41) (k := 4) (v := 45) hz (by decide)
  have hz := z_Z_v (a := 41) (k := 5) (v := 46) hz (by decide)
  have hz := z_Z_v (a := 41) (k := 6) (v := 47) hz (by decide)
  have hz := z_Z_v (a := 41) (k := 8) (v := 48) hz (by decide)
  have hz := z_Z_v (a := 3) (k := 2) (v := 41) hz (by decide)
  have hz := z_Z_v (a := 49) (k := 0) (v := 50) hz (by decide)
  have hz := z_Z_v (a := 49) (k := 1) (v := 51) hz (by decide)
  have hz := z_Z_v (a := 49) (k := 3) (v := 52) hz (by decide)
  have hz := z_Z_v (a := 49) (k := 4) (v := 53) hz (by decide)
  have hz := z_Z_v (a := 49) (k := 5) (v := 54) hz (by decide)
  have hz := z_Z_v (a := 49) (k := 6) (v := 55) hz (by decide)
  have hz := z_Z_v (a := 49) (k := 8) (v := 56) hz (by decide)
  have hz := z_Z_v (a := 3) (k := 3) (v := 49) hz (by decide)
  have hz := z_Z_v (a := 0) (k := 1) (v := 3) hz (by decide)
  have hz := z_Z_v (a := 57) (k := 0) (v := 1) hz (by decide)
  have hz := z_Z_v (a := 57) (k := 1) (v := 37) hz (by decide)
  have hz := z_Z_v (a := 0) (k := 2) (v := 57) hz (by decide)
  have hz := z_Z_v (a := 58) (k := 0) (v := 1) hz (by decide)
  have hz := z_Z_v (a := 58) (k := 1) (v := 49) hz (by decide)
  have hz := z_Z_v (a := 0) (k := 3) (v := 58) hz (by decide)
  have hz := z_Z_v (a := 59) (k := 0) (v := 3) hz (by decide)
  have hz := z_Z_v (a := 59) (k := 1) (v := 60) hz (by decide)
  have hz := z_Z_v (a := 59) (k := 2) (v := 61) hz (by decide)
  have hz := z_Z_v (a := 0) (k := 4) (v := 59) hz (by decide)
  have hz := z_Z_v (a := 62) (k := 0) (v := 63) hz (by decide)
  have hz := z_Z_v (a := 63) (k := 0) (v := 64) hz (by decide)
  have hz := z_Z_v (a := 63) (k := 1) (v := 65) hz (by decide)
  have hz := z_Z_v (a := 63) (k := 2) (v := 66) hz (by decide)
  have hz := z_Z_v (a := 63) (k := 3) (v := 67) hz (by decide)
  have hz := z_Z_v (a := 63) (k := 4) (v := 68) hz (by decide)
  have hz := z_Z_v (a := 63) (k := 5) (v := 69) hz (by decide)
  have hz := z_Z_v (a := 63) (k := 6) (v := 70) hz (by decide)
  have hz := z_Z_v (a := 63) (k := 7) (v := 71) hz (by decide)
  have hz := z_Z_v (a := 0) (k := 5) (v := 62) hz (by decide)
  have hz := z_Z_v (a := 72) (k := 0) (v := 73) hz (by decide)
  have hz := z_Z_v (a := 73) (k := 0) (v := 74) hz (by decide)
  have hz := z_Z_v (a := 73) (k := 1) (v := 75) hz (by decide)
  have hz := z_Z_v (a := 73) (k := 2) (v := 76) hz (by decide)
  have hz := z_Z_v (a := 73) (k := 3) (v := 77) hz (by decide)
  have hz := z_Z_v (a := 73) (k := 4) (v := 78) hz (by decide)
  have hz := z_Z_v (a := 73) (k := 5) (v := 79) hz (by decide)
  have hz := z_Z_v (a := 73) (k := 6) (v := 80) hz (by decide)
  have hz := z_Z_v (a := 73) (k := 7) (v := 81) hz (by decide)
  have hz := z_Z_v (a := 0) (k := 6) (v := 72) hz (by decide)
  have hz := z_Z_v (a := 82) (k := 0) (v := 83) hz (by decide)
  have hz := z_Z_v (a := 83) (k := 0) (v := 84) hz (by decide)
  have hz := z_Z_v (a := 83) (k := 1) (v := 85) hz (by decide)
  have hz := z_Z_v (a := 83) (k := 2) (v := 86) hz (by decide)
  have hz := z_Z_v (a := 83) (k := 3) (v := 87) hz (by decide)
  have hz := z_Z_v (a := 83) (k := 4) (v := 88) hz (by decide)
  have hz := z_Z_v (a := 83) (k := 5) (v := 89) hz (by decide)
  have hz := z_Z_v (a := 83) (k := 6) (v := 90) hz (by decide)
  have hz := z_Z_v (a := 83) (k := 7) (v := 91) hz (by decide)
  have hz := z_Z_v (a := 0) (k := 7) (v := 82) hz (by decide)
  have hz := z_Z_v (a := 92) (k := 0) (v := 93) hz (by decide)
  have hz := z_Z_v (a := 0) (k := 9) (v := 92) hz (by decide)
  have hz := z_Z_v (a := 94) (k := 0) (v := 95) hz (by decide)
  have hz := z_Z_v (a := 94) (k := 1) (v := 96) hz (by decide)
  have hz := z_Z_v (a := 0) (k := 10) (v := 94) hz (by decide)
  have hz := z_Z_v (a := 97) (k := 0) (v := 98) hz (by decide)
  have hz := z_Z_v (a := 97) (k := 1) (v := 99) hz (by decide)
  have hz := z_Z_v (a := 97) (k := 2) (v := 100) hz (by decide)
  have hz := z_Z_v (a := 97) (k := 4) (v := 101) hz (by decide)
  have hz := z_Z_v (a := 0) (k := 11) (v := 97) hz (by decide)
  refine z_astore_n dL_law_7 rfl (by decide) (by decide) ?_
  refine x_new (kc := 32) (ks := 4043) (n := 102) (ci := 13) (N := 58) (by decide +kernel) kX13 rfl dvX13 lcL_10 hz dL_law_8 ?_
  have hz := z_Z_m hz (show 102 ≤ 103 by decide)
  refine z_dup dL_law_11 rfl ?_
  refine x_cI (kc := 0) (ks := 0) (mc := 32) (ms := 4043) (n' := 135) (av := []) (cX13_init_102 (by omega) hz) oX13_init rfl lmL_12 iX13_init rfl rfl _ rfl rfl (Nat.le_of_ble_eq_true rfl) dL_law_12 ?_
  refine z_astore_n dL_law_15 rfl (by decide) (by decide) ?_
  refine z_iconst dL_law_16 kc_0 ?_
  refine z_istore_n dL_law_17 rfl (by decide) ?_
  rw [z_T_all]
  show z_W G eL_law (d + 1) 0 0 18 [some (.ref 100000), some (.ref 0), some (.ref 102), some (.int 0)] [] z_SH (z_I0, z_R0) _
  exact z_lp_el (P := fun s : Int32 × (Nat → Nat → Int32) × (Nat → Nat → Nat) => z_W G eL_law (d + 1) 0 0 18 [some (.ref 100000), some (.ref 0), some (.ref 102), some (.int s.1)] [] z_SH (s.2.1, s.2.2) (fun r _ _ => r = some (.int 1))) (E := fun v : Int32 => ∀ h : z_H, (some (Value.int v)) = some (.int 1)) (wL_b (Nat.le_trans (Nat.le_of_ble_eq_true rfl) hd)) 300 ((0 : Int32), z_I0, z_R0) 1 h (fun _ => rfl)

