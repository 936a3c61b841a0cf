/-! the law -/
theorem x_i5 (i : Nat) : nI i + Int32.ofInt 5 = nI (i + 5) := by rw [show Int32.ofInt 5 = nI 5 by decide +kernel, nI_add]
def lwI (h : xH) : Prop := ∃ (ρ : Nat → vRel) (ν : Nat → vVw) (κ : vAL) (cnt : Nat) (D : Nat → vPd) (fo : Nat → Bool) (rq tr : Nat), isVM h 1 ρ ν κ cnt D fo rq tr ∧ isMo h 113 ρ ν κ cnt D fo rq tr ∧ vSR ρ ∧ vSV ν ∧ vSQ κ ∧ vSP cnt D
section T71
variable {d mc ms L : Nat} {xs : Nat → Int32} {kc ks : Nat} {Z : xZ} {i : Nat} {h : xH}
theorem and31 (y : Int32) : ∃ j, j < 32 ∧ y &&& nI 31 = nI j := by
  refine ⟨(y &&& nI 31).toBitVec.toNat, ?_, ?_⟩
  · rw [Int32.toBitVec_and, BitVec.toNat_and]
    have : (nI 31).toBitVec.toNat = 31 := by decide +kernel
    rw [this]
    exact Nat.lt_of_le_of_lt Nat.and_le_right (by decide)
  · apply Int32.toBitVec_inj.mp
    show (y &&& nI 31).toBitVec = BitVec.ofNat 32 (y &&& nI 31).toBitVec.toNat
    rw [BitVec.ofNat_toNat, BitVec.setWidth_eq]
theorem lw_end (hi : L < i + 5) (hL : L < 2 ^ 30) (hi2 : i < 2 ^ 31) (k : XW (x_rm d mc ms) k_Law_law L xs Z kc ks 618 [] [] 138 h) : XW (x_rm d mc ms) k_Law_law L xs Z kc ks 22 [(0, .ref 0), (1, .ref 1), (2, .ref 113), (3, .int (nI i))] [.int (nI 5), .int (nI L), .int (nI i)] 138 h := by
  refine xr_isub a_Law_law_22 ?_
  refine xr_icmp_gt a_Law_law_23 (fun _ => xr_ls [] trivial k) (fun z => absurd ?_ z)
  rw [Int32.lt_iff_toInt_lt, pk_sub_toInt hL (by decide), nI_toInt hi2]
  omega
theorem lw_fact (hd : 31 ≤ d) (hkc : kc ≤ mc) (hks : ks ≤ ms) (hL : L < 2 ^ 31) (hi : i + 5 ≤ L) (hI : lwI h) (next : ∀ h', lwI h' → XW (x_rm d mc ms) k_Law_law L xs Z kc ks 612 [(0, .ref 0), (1, .ref 1), (2, .ref 113), (3, .int (nI i))] [] 138 h') : XW (x_rm d mc ms) k_Law_law L xs Z kc ks 120 [(0, .ref 0), (1, .ref 1), (2, .ref 113), (3, .int (nI i))] [] 138 h := by
  obtain ⟨ρ, ν, κ, cnt, D, fo, rq, tr, pv, pm, hR, hV, hQ, hP⟩ := hI
  have v0 := pv.1
  refine xr_aload_n a_Law_law_120 rfl ?_
  refine xr_aload_n a_Law_law_121 rfl ?_
  refine xr_iload_n a_Law_law_122 rfl ?_
  refine xr_iconst a_Law_law_123 (v := nI 1) (by decide +kernel) ?_
  first | refine xn_iadd a_Law_law_124 ?_ | refine xr_iadd a_Law_law_124 ?_
  refine xr_sload a_Law_law_125 rfl (by omega) (by omega) ?_
  refine xr_aload_n a_Law_law_126 rfl ?_
  refine xr_iload_n a_Law_law_127 rfl ?_
  refine xr_iconst a_Law_law_128 (v := nI 2) (by decide +kernel) ?_
  first | refine xn_iadd a_Law_law_129 ?_ | refine xr_iadd a_Law_law_129 ?_
  refine xr_sload a_Law_law_130 rfl (by omega) (by omega) ?_
  refine xr_aload_n a_Law_law_131 rfl ?_
  refine xr_iload_n a_Law_law_132 rfl ?_
  refine xr_iconst a_Law_law_133 (v := nI 3) (by decide +kernel) ?_
  first | refine xn_iadd a_Law_law_134 ?_ | refine xr_iadd a_Law_law_134 ?_
  refine xr_sload a_Law_law_135 rfl (by omega) (by omega) ?_
  refine xr_invV a_Law_law_136 (by (repeat' (first | assumption | exact va_up_self _ _ _ | refine x_lk (by omega) ?_))) (t_VM_fact (d := 30) pv hR (by omega)) rfl rfl (by omega) (by omega) (by omega) (Nat.le_of_ble_eq_true rfl) ?_
  rintro _ _ h2 ⟨rfl, rfl, f2, pv2⟩
  have pm2 := pm.sm (f2.sm (a' := 113) (b' := 113 + 25) (by omega))
  obtain ⟨⟨st, ne, m0⟩, -⟩ := id pm2
  refine xr_aload_n a_Law_law_139 rfl ?_
  refine xr_aload_n a_Law_law_140 rfl ?_
  refine xr_iload_n a_Law_law_141 rfl ?_
  refine xr_iconst a_Law_law_142 (v := nI 1) (by decide +kernel) ?_
  first | refine xn_iadd a_Law_law_143 ?_ | refine xr_iadd a_Law_law_143 ?_
  refine xr_sload a_Law_law_144 rfl (by omega) (by omega) ?_
  refine xr_aload_n a_Law_law_145 rfl ?_
  refine xr_iload_n a_Law_law_146 rfl ?_
  refine xr_iconst a_Law_law_147 (v := nI 2) (by decide +kernel) ?_
  first | refine xn_iadd a_Law_law_148 ?_ | refine xr_iadd a_Law_law_148 ?_
  refine xr_sload a_Law_law_149 rfl (by omega) (by omega) ?_
  refine xr_aload_n a_Law_law_150 rfl ?_
  refine xr_iload_n a_Law_law_151 rfl ?_
  refine xr_iconst a_Law_law_152 (v := nI 3) (by decide +kernel) ?_
  first | refine xn_iadd a_Law_law_153 ?_ | refine xr_iadd a_Law_law_153 ?_
  refine xr_sload a_Law_law_154 rfl (by omega) (by omega) ?_
  refine xr_invV a_Law_law_155 (by (repeat' (first | assumption | exact va_up_self _ _ _ | refine x_lk (by omega) ?_))) (t_Mod_fact (d := 30) pm2 hR (by omega)) rfl rfl (by omega) (by omega) (by omega) (Nat.le_of_ble_eq_true rfl) ?_
  rintro _ _ h3 ⟨rfl, rfl, f3, pm3⟩
  have pv3 := pv2.sm (f3.sm (a' := 1) (b' := 1 + 112) (by omega))
  refine xr_icmp_eq a_Law_law_158 (fun _ => ?_) (fun z => absurd rfl z)
  refine xr_ls [(0, .ref 0), (1, .ref 1), (2, .ref 113), (3, .int (nI i))] ⟨rfl, rfl, rfl, rfl, trivial⟩ ?_
  exact next h3 ⟨_, ν, κ, cnt, D, fo, rq, tr, pv3, pm3, keep_fact hR, hV, hQ, hP⟩
theorem lw_retract (hd : 31 ≤ d) (hkc : kc ≤ mc) (hks : ks ≤ ms) (hL : L < 2 ^ 31) (hi : i + 5 ≤ L) (hI : lwI h) (next : ∀ h', lwI h' → XW (x_rm d mc ms) k_Law_law L xs Z kc ks 612 [(0, .ref 0), (1, .ref 1), (2, .ref 113), (3, .int (nI i))] [] 138 h') : XW (x_rm d mc ms) k_Law_law L xs Z kc ks 163 [(0, .ref 0), (1, .ref 1), (2, .ref 113), (3, .int (nI i))] [] 138 h := by
  obtain ⟨ρ, ν, κ, cnt, D, fo, rq, tr, pv, pm, hR, hV, hQ, hP⟩ := hI
  have v0 := pv.1
  refine xr_aload_n a_Law_law_163 rfl ?_
  refine xr_aload_n a_Law_law_164 rfl ?_
  refine xr_iload_n a_Law_law_165 rfl ?_
  refine xr_iconst a_Law_law_166 (v := nI 1) (by decide +kernel) ?_
  first | refine xn_iadd a_Law_law_167 ?_ | refine xr_iadd a_Law_law_167 ?_
  refine xr_sload a_Law_law_168 rfl (by omega) (by omega) ?_
  refine xr_aload_n a_Law_law_169 rfl ?_
  refine xr_iload_n a_Law_law_170 rfl ?_
  refine xr_iconst a_Law_law_171 (v := nI 2) (by decide +kernel) ?_
  first | refine xn_iadd a_Law_law_172 ?_ | refine xr_iadd a_Law_law_172 ?_
  refine xr_sload a_Law_law_173 rfl (by omega) (by omega) ?_
  refine xr_aload_n a_Law_law_174 rfl ?_
  refine xr_iload_n a_Law_law_175 rfl ?_
  refine xr_iconst a_Law_law_176 (v := nI 3) (by decide +kernel) ?_
  first | refine xn_iadd a_Law_law_177 ?_ | refine xr_iadd a_Law_law_177 ?_
  refine xr_sload a_Law_law_178 rfl (by omega) (by omega) ?_
  refine xr_invV a_Law_law_179 (by (repeat' (first | assumption | exact va_up_self _ _ _ | refine x_lk (by omega) ?_))) (t_VM_retract (d := 30) pv hR (by omega)) rfl rfl (by omega) (by omega) (by omega) (Nat.le_of_ble_eq_true rfl) ?_
  rintro _ _ h2 ⟨rfl, rfl, f2, pv2⟩
  have pm2 := pm.sm (f2.sm (a' := 113) (b' := 113 + 25) (by omega))
  obtain ⟨⟨st, ne, m0⟩, -⟩ := id pm2
  refine xr_aload_n a_Law_law_182 rfl ?_
  refine xr_aload_n a_Law_law_183 rfl ?_
  refine xr_iload_n a_Law_law_184 rfl ?_
  refine xr_iconst a_Law_law_185 (v := nI 1) (by decide +kernel) ?_
  first | refine xn_iadd a_Law_law_186 ?_ | refine xr_iadd a_Law_law_186 ?_
  refine xr_sload a_Law_law_187 rfl (by omega) (by omega) ?_
  refine xr_aload_n a_Law_law_188 rfl ?_
  refine xr_iload_n a_Law_law_189 rfl ?_
  refine xr_iconst a_Law_law_190 (v := nI 2) (by decide +kernel) ?_
  first | refine xn_iadd a_Law_law_191 ?_ | refine xr_iadd a_Law_law_191 ?_
  refine xr_sload a_Law_law_192 rfl (by omega) (by omega) ?_
  refine xr_aload_n a_Law_law_193 rfl ?_
  refine xr_iload_n a_Law_law_194 rfl ?_
  refine xr_iconst a_Law_law_195 (v := nI 3) (by decide +kernel) ?_
  first | refine xn_iadd a_Law_law_196 ?_ | refine xr_iadd a_Law_law_196 ?_
  refine xr_sload a_Law_law_197 rfl (by omega) (by omega) ?_
  refine xr_invV a_Law_law_198 (by (repeat' (first | assumption | exact va_up_self _ _ _ | refine x_lk (by omega) ?_))) (t_Mod_retract (d := 30) pm2 hR (by omega)) rfl rfl (by omega) (by omega) (by omega) (Nat.le_of_ble_eq_true rfl) ?_
  rintro _ _ h3 ⟨rfl, rfl, f3, pm3⟩
  have pv3 := pv2.sm (f3.sm (a' := 1) (b' := 1 + 112) (by omega))
  refine xr_icmp_eq a_Law_law_201 (fun _ => ?_) (fun z => absurd rfl z)
  refine xr_ls [(0, .ref 0), (1, .ref 1), (2, .ref 113), (3, .int (nI i))] ⟨rfl, rfl, rfl, rfl, trivial⟩ ?_
  exact next h3 ⟨_, ν, κ, cnt, D, fo, rq, tr, pv3, pm3, keep_retract hR, hV, hQ, hP⟩
theorem lw_allow (hd : 31 ≤ d) (hkc : kc ≤ mc) (hks : ks ≤ ms) (hL : L < 2 ^ 31) (hi : i + 5 ≤ L) (hI : lwI h) (next : ∀ h', lwI h' → XW (x_rm d mc ms) k_Law_law L xs Z kc ks 612 [(0, .ref 0), (1, .ref 1), (2, .ref 113), (3, .int (nI i))] [] 138 h') : XW (x_rm d mc ms) k_Law_law L xs Z kc ks 206 [(0, .ref 0), (1, .ref 1), (2, .ref 113), (3, .int (nI i))] [] 138 h := by
  obtain ⟨ρ, ν, κ, cnt, D, fo, rq, tr, pv, pm, hR, hV, hQ, hP⟩ := hI
  have v0 := pv.1
  refine xr_aload_n a_Law_law_206 rfl ?_
  refine xr_aload_n a_Law_law_207 rfl ?_
  refine xr_iload_n a_Law_law_208 rfl ?_
  refine xr_iconst a_Law_law_209 (v := nI 1) (by decide +kernel) ?_
  first | refine xn_iadd a_Law_law_210 ?_ | refine xr_iadd a_Law_law_210 ?_
  refine xr_sload a_Law_law_211 rfl (by omega) (by omega) ?_
  refine xr_aload_n a_Law_law_212 rfl ?_
  refine xr_iload_n a_Law_law_213 rfl ?_
  refine xr_iconst a_Law_law_214 (v := nI 2) (by decide +kernel) ?_
  first | refine xn_iadd a_Law_law_215 ?_ | refine xr_iadd a_Law_law_215 ?_
  refine xr_sload a_Law_law_216 rfl (by omega) (by omega) ?_
  refine xr_invV a_Law_law_217 (by (repeat' (first | assumption | exact va_up_self _ _ _ | refine x_lk (by omega) ?_))) (t_VM_allow (d := 30) pv (by omega)) rfl rfl (by omega) (by omega) (by omega) (Nat.le_of_ble_eq_true rfl) ?_
  rintro _ _ h2 ⟨rfl, rfl, f2, pv2⟩
  have pm2 := pm.sm (f2.sm (a' := 113) (b' := 113 + 25) (by omega))
  obtain ⟨⟨st, ne, m0⟩, -⟩ := id pm2
  refine xr_aload_n a_Law_law_220 rfl ?_
  refine xr_aload_n a_Law_law_221 rfl ?_
  refine xr_iload_n a_Law_law_222 rfl ?_
  refine xr_iconst a_Law_law_223 (v := nI 1) (by decide +kernel) ?_
  first | refine xn_iadd a_Law_law_224 ?_ | refine xr_iadd a_Law_law_224 ?_
  refine xr_sload a_Law_law_225 rfl (by omega) (by omega) ?_
  refine xr_aload_n a_Law_law_226 rfl ?_
  refine xr_iload_n a_Law_law_227 rfl ?_
  refine xr_iconst a_Law_law_228 (v := nI 2) (by decide +kernel) ?_
  first | refine xn_iadd a_Law_law_229 ?_ | refine xr_iadd a_Law_law_229 ?_
  refine xr_sload a_Law_law_230 rfl (by omega) (by omega) ?_
  refine xr_invV a_Law_law_231 (by (repeat' (first | assumption | exact va_up_self _ _ _ | refine x_lk (by omega) ?_))) (t_Mod_allow (d := 30) pm2 (by omega)) rfl rfl (by omega) (by omega) (by omega) (Nat.le_of_ble_eq_true rfl) ?_
  rintro _ _ h3 ⟨rfl, rfl, f3, pm3⟩
  have pv3 := pv2.sm (f3.sm (a' := 1) (b' := 1 + 112) (by omega))
  refine xr_icmp_eq a_Law_law_234 (fun _ => ?_) (fun z => absurd rfl z)
  refine xr_ls [(0, .ref 0), (1, .ref 1), (2, .ref 113), (3, .int (nI i))] ⟨rfl, rfl, rfl, rfl, trivial⟩ ?_
  exact next h3 ⟨_, ν, κ, cnt, D, fo, rq, tr, pv3, pm3, keep_allow hR, hV, hQ, hP⟩
theorem lw_fail (hd : 31 ≤ d) (hkc : kc ≤ mc) (hks : ks ≤ ms) (hL : L < 2 ^ 31) (hi : i + 5 ≤ L) (hI : lwI h) (next : ∀ h', lwI h' → XW (x_rm d mc ms) k_Law_law L xs Z kc ks 612 [(0, .ref 0), (1, .ref 1), (2, .ref 113), (3, .int (nI i))] [] 138 h') : XW (x_rm d mc ms) k_Law_law L xs Z kc ks 239 [(0, .ref 0), (1, .ref 1), (2, .ref 113), (3, .int (nI i))] [] 138 h := by
  obtain ⟨ρ, ν, κ, cnt, D, fo, rq, tr, pv, pm, hR, hV, hQ, hP⟩ := hI
  have v0 := pv.1
  refine xr_aload_n a_Law_law_239 rfl ?_
  refine xr_aload_n a_Law_law_240 rfl ?_
  refine xr_iload_n a_Law_law_241 rfl ?_
  refine xr_iconst a_Law_law_242 (v := nI 1) (by decide +kernel) ?_
  first | refine xn_iadd a_Law_law_243 ?_ | refine xr_iadd a_Law_law_243 ?_
  refine xr_sload a_Law_law_244 rfl (by omega) (by omega) ?_
  refine xr_aload_n a_Law_law_245 rfl ?_
  refine xr_iload_n a_Law_law_246 rfl ?_
  refine xr_iconst a_Law_law_247 (v := nI 2) (by decide +kernel) ?_
  first | refine xn_iadd a_Law_law_248 ?_ | refine xr_iadd a_Law_law_248 ?_
  refine xr_sload a_Law_law_249 rfl (by omega) (by omega) ?_
  refine xr_invV a_Law_law_250 (by (repeat' (first | assumption | exact va_up_self _ _ _ | refine x_lk (by omega) ?_))) (t_VM_fail (d := 30) pv (by omega)) rfl rfl (by omega) (by omega) (by omega) (Nat.le_of_ble_eq_true rfl) ?_
  rintro _ _ h2 ⟨rfl, rfl, f2, pv2⟩
  have pm2 := pm.sm (f2.sm (a' := 113) (b' := 113 + 25) (by omega))
  obtain ⟨⟨st, ne, m0⟩, -⟩ := id pm2
  refine xr_aload_n a_Law_law_253 rfl ?_
  refine xr_aload_n a_Law_law_254 rfl ?_
  refine xr_iload_n a_Law_law_255 rfl ?_
  refine xr_iconst a_Law_law_256 (v := nI 1) (by decide +kernel) ?_
  first | refine xn_iadd a_Law_law_257 ?_ | refine xr_iadd a_Law_law_257 ?_
  refine xr_sload a_Law_law_258 rfl (by omega) (by omega) ?_
  refine xr_aload_n a_Law_law_259 rfl ?_
  refine xr_iload_n a_Law_law_260 rfl ?_
  refine xr_iconst a_Law_law_261 (v := nI 2) (by decide +kernel) ?_
  first | refine xn_iadd a_Law_law_262 ?_ | refine xr_iadd a_Law_law_262 ?_
  refine xr_sload a_Law_law_263 rfl (by omega) (by omega) ?_
  refine xr_invV a_Law_law_264 (by (repeat' (first | assumption | exact va_up_self _ _ _ | refine x_lk (by omega) ?_))) (t_Mod_fail (d := 30) pm2 (by omega)) rfl rfl (by omega) (by omega) (by omega) (Nat.le_of_ble_eq_true rfl) ?_
  rintro _ _ h3 ⟨rfl, rfl, f3, pm3⟩
  have pv3 := pv2.sm (f3.sm (a' := 1) (b' := 1 + 112) (by omega))
  refine xr_icmp_eq a_Law_law_267 (fun _ => ?_) (fun z => absurd rfl z)
  refine xr_ls [(0, .ref 0), (1, .ref 1), (2, .ref 113), (3, .int (nI i))] ⟨rfl, rfl, rfl, rfl, trivial⟩ ?_
  exact next h3 ⟨_, ν, κ, cnt, D, fo, rq, tr, pv3, pm3, keep_fail hR, hV, hQ, hP⟩
theorem lw_failures (hd : 31 ≤ d) (hkc : kc ≤ mc) (hks : ks ≤ ms) (hL : L < 2 ^ 31) (hi : i + 5 ≤ L) (hI : lwI h) (next : ∀ h', lwI h' → XW (x_rm d mc ms) k_Law_law L xs Z kc ks 612 [(0, .ref 0), (1, .ref 1), (2, .ref 113), (3, .int (nI i))] [] 138 h') : XW (x_rm d mc ms) k_Law_law L xs Z kc ks 272 [(0, .ref 0), (1, .ref 1), (2, .ref 113), (3, .int (nI i))] [] 138 h := by
  obtain ⟨ρ, ν, κ, cnt, D, fo, rq, tr, pv, pm, hR, hV, hQ, hP⟩ := hI
  have v0 := pv.1
  obtain ⟨⟨st, ne, m0⟩, -⟩ := id pm
  refine xr_aload_n a_Law_law_272 rfl ?_
  refine xr_aload_n a_Law_law_273 rfl ?_
  refine xr_iload_n a_Law_law_274 rfl ?_
  refine xr_iconst a_Law_law_275 (v := nI 1) (by decide +kernel) ?_
  first | refine xn_iadd a_Law_law_276 ?_ | refine xr_iadd a_Law_law_276 ?_
  refine xr_sload a_Law_law_277 rfl (by omega) (by omega) ?_
  refine xr_invV a_Law_law_278 (by (repeat' (first | assumption | exact va_up_self _ _ _ | refine x_lk (by omega) ?_))) (t_VM_failures (d := 30) pv (by omega)) rfl rfl (by omega) (by omega) (by omega) (Nat.le_of_ble_eq_true rfl) ?_
  rintro _ _ h1 ⟨rfl, rfl, rfl⟩
  refine xr_aload_n a_Law_law_281 rfl ?_
  refine xr_aload_n a_Law_law_282 rfl ?_
  refine xr_iload_n a_Law_law_283 rfl ?_
  refine xr_iconst a_Law_law_284 (v := nI 1) (by decide +kernel) ?_
  first | refine xn_iadd a_Law_law_285 ?_ | refine xr_iadd a_Law_law_285 ?_
  refine xr_sload a_Law_law_286 rfl (by omega) (by omega) ?_
  refine xr_invV a_Law_law_287 (by (repeat' (first | assumption | exact va_up_self _ _ _ | refine x_lk (by omega) ?_))) (t_Mod_failures (d := 30) pm (by omega)) rfl rfl (by omega) (by omega) (by omega) (Nat.le_of_ble_eq_true rfl) ?_
  rintro _ _ h1 ⟨rfl, rfl, rfl⟩
  refine xr_icmp_eq a_Law_law_290 (fun _ => ?_) (fun z => absurd rfl z)
  refine xr_ls [(0, .ref 0), (1, .ref 1), (2, .ref 113), (3, .int (nI i))] ⟨rfl, rfl, rfl, rfl, trivial⟩ ?_
  exact next h ⟨ρ, ν, κ, cnt, D, fo, rq, tr, pv, pm, hR, hV, hQ, hP⟩
theorem lw_rule (hd : 31 ≤ d) (hkc : kc ≤ mc) (hks : ks ≤ ms) (hL : L < 2 ^ 31) (hi : i + 5 ≤ L) (hI : lwI h) (next : ∀ h', lwI h' → XW (x_rm d mc ms) k_Law_law L xs Z kc ks 612 [(0, .ref 0), (1, .ref 1), (2, .ref 113), (3, .int (nI i))] [] 138 h') : XW (x_rm d mc ms) k_Law_law L xs Z kc ks 295 [(0, .ref 0), (1, .ref 1), (2, .ref 113), (3, .int (nI i))] [] 138 h := by
  obtain ⟨ρ, ν, κ, cnt, D, fo, rq, tr, pv, pm, hR, hV, hQ, hP⟩ := hI
  have v0 := pv.1
  refine xr_aload_n a_Law_law_295 rfl ?_
  refine xr_aload_n a_Law_law_296 rfl ?_
  refine xr_iload_n a_Law_law_297 rfl ?_
  refine xr_iconst a_Law_law_298 (v := nI 1) (by decide +kernel) ?_
  first | refine xn_iadd a_Law_law_299 ?_ | refine xr_iadd a_Law_law_299 ?_
  refine xr_sload a_Law_law_300 rfl (by omega) (by omega) ?_
  refine xr_invV a_Law_law_301 (by (repeat' (first | assumption | exact va_up_self _ _ _ | refine x_lk (by omega) ?_))) (t_VM_rule (d := 30) pv hV (by omega)) rfl rfl (by omega) (by omega) (by omega) (Nat.le_of_ble_eq_true rfl) ?_
  rintro _ _ h2 ⟨rfl, rfl, f2, pv2⟩
  have pm2 := pm.sm (f2.sm (a' := 113) (b' := 113 + 25) (by omega))
  obtain ⟨⟨st, ne, m0⟩, -⟩ := id pm2
  refine xr_aload_n a_Law_law_304 rfl ?_
  refine xr_aload_n a_Law_law_305 rfl ?_
  refine xr_iload_n a_Law_law_306 rfl ?_
  refine xr_iconst a_Law_law_307 (v := nI 1) (by decide +kernel) ?_
  first | refine xn_iadd a_Law_law_308 ?_ | refine xr_iadd a_Law_law_308 ?_
  refine xr_sload a_Law_law_309 rfl (by omega) (by omega) ?_
  refine xr_invV a_Law_law_310 (by (repeat' (first | assumption | exact va_up_self _ _ _ | refine x_lk (by omega) ?_))) (t_Mod_rule (d := 30) pm2 hV (by omega)) rfl rfl (by omega) (by omega) (by omega) (Nat.le_of_ble_eq_true rfl) ?_
  rintro _ _ h3 ⟨rfl, rfl, f3, pm3⟩
  have pv3 := pv2.sm (f3.sm (a' := 1) (b' := 1 + 112) (by omega))
  refine xr_icmp_eq a_Law_law_313 (fun _ => ?_) (fun z => absurd rfl z)
  refine xr_ls [(0, .ref 0), (1, .ref 1), (2, .ref 113), (3, .int (nI i))] ⟨rfl, rfl, rfl, rfl, trivial⟩ ?_
  exact next h3 ⟨ρ, _, κ, cnt, D, fo, rq, tr, pv3, pm3, hR, keep_rule hV, hQ, hP⟩
theorem lw_atom (hd : 31 ≤ d) (hkc : kc ≤ mc) (hks : ks ≤ ms) (hL : L < 2 ^ 31) (hi : i + 5 ≤ L) (hI : lwI h) (next : ∀ h', lwI h' → XW (x_rm d mc ms) k_Law_law L xs Z kc ks 612 [(0, .ref 0), (1, .ref 1), (2, .ref 113), (3, .int (nI i))] [] 138 h') : XW (x_rm d mc ms) k_Law_law L xs Z kc ks 318 [(0, .ref 0), (1, .ref 1), (2, .ref 113), (3, .int (nI i))] [] 138 h := by
  obtain ⟨ρ, ν, κ, cnt, D, fo, rq, tr, pv, pm, hR, hV, hQ, hP⟩ := hI
  have v0 := pv.1
  refine xr_aload_n a_Law_law_318 rfl ?_
  refine xr_aload_n a_Law_law_319 rfl ?_
  refine xr_iload_n a_Law_law_320 rfl ?_
  refine xr_iconst a_Law_law_321 (v := nI 1) (by decide +kernel) ?_
  first | refine xn_iadd a_Law_law_322 ?_ | refine xr_iadd a_Law_law_322 ?_
  refine xr_sload a_Law_law_323 rfl (by omega) (by omega) ?_
  refine xr_aload_n a_Law_law_324 rfl ?_
  refine xr_iload_n a_Law_law_325 rfl ?_
  refine xr_iconst a_Law_law_326 (v := nI 2) (by decide +kernel) ?_
  first | refine xn_iadd a_Law_law_327 ?_ | refine xr_iadd a_Law_law_327 ?_
  refine xr_sload a_Law_law_328 rfl (by omega) (by omega) ?_
  refine xr_aload_n a_Law_law_329 rfl ?_
  refine xr_iload_n a_Law_law_330 rfl ?_
  refine xr_iconst a_Law_law_331 (v := nI 3) (by decide +kernel) ?_
  first | refine xn_iadd a_Law_law_332 ?_ | refine xr_iadd a_Law_law_332 ?_
  refine xr_sload a_Law_law_333 rfl (by omega) (by omega) ?_
  refine xr_aload_n a_Law_law_334 rfl ?_
  refine xr_iload_n a_Law_law_335 rfl ?_
  refine xr_iconst a_Law_law_336 (v := nI 4) (by decide +kernel) ?_
  first | refine xn_iadd a_Law_law_337 ?_ | refine xr_iadd a_Law_law_337 ?_
  refine xr_sload a_Law_law_338 rfl (by omega) (by omega) ?_
  refine xr_invV a_Law_law_339 (by (repeat' (first | assumption | exact va_up_self _ _ _ | refine x_lk (by omega) ?_))) (t_VM_atom (d := 30) pv hV (by omega)) rfl rfl (by omega) (by omega) (by omega) (Nat.le_of_ble_eq_true rfl) ?_
  rintro _ _ h2 ⟨rfl, rfl, f2, pv2⟩
  have pm2 := pm.sm (f2.sm (a' := 113) (b' := 113 + 25) (by omega))
  obtain ⟨⟨st, ne, m0⟩, -⟩ := id pm2
  refine xr_aload_n a_Law_law_342 rfl ?_
  refine xr_aload_n a_Law_law_343 rfl ?_
  refine xr_iload_n a_Law_law_344 rfl ?_
  refine xr_iconst a_Law_law_345 (v := nI 1) (by decide +kernel) ?_
  first | refine xn_iadd a_Law_law_346 ?_ | refine xr_iadd a_Law_law_346 ?_
  refine xr_sload a_Law_law_347 rfl (by omega) (by omega) ?_
  refine xr_aload_n a_Law_law_348 rfl ?_
  refine xr_iload_n a_Law_law_349 rfl ?_
  refine xr_iconst a_Law_law_350 (v := nI 2) (by decide +kernel) ?_
  first | refine xn_iadd a_Law_law_351 ?_ | refine xr_iadd a_Law_law_351 ?_
  refine xr_sload a_Law_law_352 rfl (by omega) (by omega) ?_
  refine xr_aload_n a_Law_law_353 rfl ?_
  refine xr_iload_n a_Law_law_354 rfl ?_
  refine xr_iconst a_Law_law_355 (v := nI 3) (by decide +kernel) ?_
  first | refine xn_iadd a_Law_law_356 ?_ | refine xr_iadd a_Law_law_356 ?_
  refine xr_sload a_Law_law_357 rfl (by omega) (by omega) ?_
  refine xr_aload_n a_Law_law_358 rfl ?_
  refine xr_iload_n a_Law_law_359 rfl ?_
  refine xr_iconst a_Law_law_360 (v := nI 4) (by decide +kernel) ?_
  first | refine xn_iadd a_Law_law_361 ?_ | refine xr_iadd a_Law_law_361 ?_
  refine xr_sload a_Law_law_362 rfl (by omega) (by omega) ?_
  refine xr_invV a_Law_law_363 (by (repeat' (first | assumption | exact va_up_self _ _ _ | refine x_lk (by omega) ?_))) (t_Mod_atom (d := 30) pm2 hV (by omega)) rfl rfl (by omega) (by omega) (by omega) (Nat.le_of_ble_eq_true rfl) ?_
  rintro _ _ h3 ⟨rfl, rfl, f3, pm3⟩
  have pv3 := pv2.sm (f3.sm (a' := 1) (b' := 1 + 112) (by omega))
  refine xr_icmp_eq a_Law_law_366 (fun _ => ?_) (fun z => absurd rfl z)
  refine xr_ls [(0, .ref 0), (1, .ref 1), (2, .ref 113), (3, .int (nI i))] ⟨rfl, rfl, rfl, rfl, trivial⟩ ?_
  exact next h3 ⟨ρ, _, κ, cnt, D, fo, rq, tr, pv3, pm3, hR, keep_atom hV, hQ, hP⟩
theorem lw_forget (hd : 31 ≤ d) (hkc : kc ≤ mc) (hks : ks ≤ ms) (hL : L < 2 ^ 31) (hi : i + 5 ≤ L) (hI : lwI h) (next : ∀ h', lwI h' → XW (x_rm d mc ms) k_Law_law L xs Z kc ks 612 [(0, .ref 0), (1, .ref 1), (2, .ref 113), (3, .int (nI i))] [] 138 h') : XW (x_rm d mc ms) k_Law_law L xs Z kc ks 371 [(0, .ref 0), (1, .ref 1), (2, .ref 113), (3, .int (nI i))] [] 138 h := by
  obtain ⟨ρ, ν, κ, cnt, D, fo, rq, tr, pv, pm, hR, hV, hQ, hP⟩ := hI
  have v0 := pv.1
  refine xr_aload_n a_Law_law_371 rfl ?_
  refine xr_aload_n a_Law_law_372 rfl ?_
  refine xr_iload_n a_Law_law_373 rfl ?_
  refine xr_iconst a_Law_law_374 (v := nI 1) (by decide +kernel) ?_
  first | refine xn_iadd a_Law_law_375 ?_ | refine xr_iadd a_Law_law_375 ?_
  refine xr_sload a_Law_law_376 rfl (by omega) (by omega) ?_
  refine xr_invV a_Law_law_377 (by (repeat' (first | assumption | exact va_up_self _ _ _ | refine x_lk (by omega) ?_))) (t_VM_forget (d := 30) pv (by omega)) rfl rfl (by omega) (by omega) (by omega) (Nat.le_of_ble_eq_true rfl) ?_
  rintro _ _ h2 ⟨rfl, rfl, f2, pv2⟩
  have pm2 := pm.sm (f2.sm (a' := 113) (b' := 113 + 25) (by omega))
  obtain ⟨⟨st, ne, m0⟩, -⟩ := id pm2
  refine xr_aload_n a_Law_law_380 rfl ?_
  refine xr_aload_n a_Law_law_381 rfl ?_
  refine xr_iload_n a_Law_law_382 rfl ?_
  refine xr_iconst a_Law_law_383 (v := nI 1) (by decide +kernel) ?_
  first | refine xn_iadd a_Law_law_384 ?_ | refine xr_iadd a_Law_law_384 ?_
  refine xr_sload a_Law_law_385 rfl (by omega) (by omega) ?_
  refine xr_invV a_Law_law_386 (by (repeat' (first | assumption | exact va_up_self _ _ _ | refine x_lk (by omega) ?_))) (t_Mod_forget (d := 30) pm2 (by omega)) rfl rfl (by omega) (by omega) (by omega) (Nat.le_of_ble_eq_true rfl) ?_
  rintro _ _ h3 ⟨rfl, rfl, f3, pm3⟩
  have pv3 := pv2.sm (f3.sm (a' := 1) (b' := 1 + 112) (by omega))
  refine xr_icmp_eq a_Law_law_389 (fun _ => ?_) (fun z => absurd rfl z)
  refine xr_ls [(0, .ref 0), (1, .ref 1), (2, .ref 113), (3, .int (nI i))] ⟨rfl, rfl, rfl, rfl, trivial⟩ ?_
  exact next h3 ⟨ρ, _, κ, cnt, D, fo, rq, tr, pv3, pm3, hR, keep_forget hV, hQ, hP⟩
theorem lw_ask (hd : 31 ≤ d) (hkc : kc ≤ mc) (hks : ks ≤ ms) (hL : L < 2 ^ 31) (hi : i + 5 ≤ L) (hI : lwI h) (next : ∀ h', lwI h' → XW (x_rm d mc ms) k_Law_law L xs Z kc ks 612 [(0, .ref 0), (1, .ref 1), (2, .ref 113), (3, .int (nI i))] [] 138 h') : XW (x_rm d mc ms) k_Law_law L xs Z kc ks 394 [(0, .ref 0), (1, .ref 1), (2, .ref 113), (3, .int (nI i))] [] 138 h := by
  obtain ⟨ρ, ν, κ, cnt, D, fo, rq, tr, pv, pm, hR, hV, hQ, hP⟩ := hI
  have v0 := pv.1
  refine xr_aload_n a_Law_law_394 rfl ?_
  refine xr_aload_n a_Law_law_395 rfl ?_
  refine xr_iload_n a_Law_law_396 rfl ?_
  refine xr_iconst a_Law_law_397 (v := nI 1) (by decide +kernel) ?_
  first | refine xn_iadd a_Law_law_398 ?_ | refine xr_iadd a_Law_law_398 ?_
  refine xr_sload a_Law_law_399 rfl (by omega) (by omega) ?_
  refine xr_aload_n a_Law_law_400 rfl ?_
  refine xr_iload_n a_Law_law_401 rfl ?_
  refine xr_iconst a_Law_law_402 (v := nI 2) (by decide +kernel) ?_
  first | refine xn_iadd a_Law_law_403 ?_ | refine xr_iadd a_Law_law_403 ?_
  refine xr_sload a_Law_law_404 rfl (by omega) (by omega) ?_
  refine xr_aload_n a_Law_law_405 rfl ?_
  refine xr_iload_n a_Law_law_406 rfl ?_
  refine xr_iconst a_Law_law_407 (v := nI 3) (by decide +kernel) ?_
  first | refine xn_iadd a_Law_law_408 ?_ | refine xr_iadd a_Law_law_408 ?_
  refine xr_sload a_Law_law_409 rfl (by omega) (by omega) ?_
  refine xr_invV a_Law_law_410 (by (repeat' (first | assumption | exact va_up_self _ _ _ | refine x_lk (by omega) ?_))) (t_VM_ask (d := 30) pv hQ.1 (by omega)) rfl rfl (by omega) (by omega) (by omega) (Nat.le_of_ble_eq_true rfl) ?_
  rintro _ _ h2 ⟨rfl, rfl, f2, pv2⟩
  have pm2 := pm.sm (f2.sm (a' := 113) (b' := 113 + 25) (by omega))
  obtain ⟨⟨st, ne, m0⟩, -⟩ := id pm2
  refine xr_aload_n a_Law_law_413 rfl ?_
  refine xr_aload_n a_Law_law_414 rfl ?_
  refine xr_iload_n a_Law_law_415 rfl ?_
  refine xr_iconst a_Law_law_416 (v := nI 1) (by decide +kernel) ?_
  first | refine xn_iadd a_Law_law_417 ?_ | refine xr_iadd a_Law_law_417 ?_
  refine xr_sload a_Law_law_418 rfl (by omega) (by omega) ?_
  refine xr_aload_n a_Law_law_419 rfl ?_
  refine xr_iload_n a_Law_law_420 rfl ?_
  refine xr_iconst a_Law_law_421 (v := nI 2) (by decide +kernel) ?_
  first | refine xn_iadd a_Law_law_422 ?_ | refine xr_iadd a_Law_law_422 ?_
  refine xr_sload a_Law_law_423 rfl (by omega) (by omega) ?_
  refine xr_aload_n a_Law_law_424 rfl ?_
  refine xr_iload_n a_Law_law_425 rfl ?_
  refine xr_iconst a_Law_law_426 (v := nI 3) (by decide +kernel) ?_
  first | refine xn_iadd a_Law_law_427 ?_ | refine xr_iadd a_Law_law_427 ?_
  refine xr_sload a_Law_law_428 rfl (by omega) (by omega) ?_
  refine xr_invV a_Law_law_429 (by (repeat' (first | assumption | exact va_up_self _ _ _ | refine x_lk (by omega) ?_))) (t_Mod_ask (d := 30) pm2 hQ.1 (by omega)) rfl rfl (by omega) (by omega) (by omega) (Nat.le_of_ble_eq_true rfl) ?_
  rintro _ _ h3 ⟨rfl, rfl, f3, pm3⟩
  have pv3 := pv2.sm (f3.sm (a' := 1) (b' := 1 + 112) (by omega))
  refine xr_icmp_eq a_Law_law_432 (fun _ => ?_) (fun z => absurd rfl z)
  refine xr_ls [(0, .ref 0), (1, .ref 1), (2, .ref 113), (3, .int (nI i))] ⟨rfl, rfl, rfl, rfl, trivial⟩ ?_
  exact next h3 ⟨ρ, ν, _, cnt, D, fo, rq, tr, pv3, pm3, hR, hV, keep_ask hQ, hP⟩
theorem lw_clear (hd : 31 ≤ d) (hkc : kc ≤ mc) (hks : ks ≤ ms) (hL : L < 2 ^ 31) (hi : i + 5 ≤ L) (hI : lwI h) (next : ∀ h', lwI h' → XW (x_rm d mc ms) k_Law_law L xs Z kc ks 612 [(0, .ref 0), (1, .ref 1), (2, .ref 113), (3, .int (nI i))] [] 138 h') : XW (x_rm d mc ms) k_Law_law L xs Z kc ks 437 [(0, .ref 0), (1, .ref 1), (2, .ref 113), (3, .int (nI i))] [] 138 h := by
  obtain ⟨ρ, ν, κ, cnt, D, fo, rq, tr, pv, pm, hR, hV, hQ, hP⟩ := hI
  have v0 := pv.1
  refine xr_aload_n a_Law_law_437 rfl ?_
  refine xr_invV a_Law_law_438 (by (repeat' (first | assumption | exact va_up_self _ _ _ | refine x_lk (by omega) ?_))) (t_VM_clear (d := 30) pv (by omega)) rfl rfl (by omega) (by omega) (by omega) (Nat.le_of_ble_eq_true rfl) ?_
  rintro _ _ h2 ⟨rfl, rfl, f2, pv2⟩
  have pm2 := pm.sm (f2.sm (a' := 113) (b' := 113 + 25) (by omega))
  obtain ⟨⟨st, ne, m0⟩, -⟩ := id pm2
  refine xr_aload_n a_Law_law_441 rfl ?_
  refine xr_invV a_Law_law_442 (by (repeat' (first | assumption | exact va_up_self _ _ _ | refine x_lk (by omega) ?_))) (t_Mod_clear (d := 30) pm2) rfl rfl (by omega) (by omega) (by omega) (Nat.le_of_ble_eq_true rfl) ?_
  rintro _ _ h3 ⟨rfl, rfl, f3, pm3⟩
  have pv3 := pv2.sm (f3.sm (a' := 1) (b' := 1 + 112) (by omega))
  refine xr_goto a_Law_law_445 ?_
  refine xr_ls [(0, .ref 0), (1, .ref 1), (2, .ref 113), (3, .int (nI i))] ⟨rfl, rfl, rfl, rfl, trivial⟩ ?_
  exact next h3 ⟨ρ, ν, _, cnt, D, fo, rq, tr, pv3, pm3, hR, hV, keep_clear hQ, hP⟩
theorem lw_run (hd : 31 ≤ d) (hkc : kc ≤ mc) (hks : ks ≤ ms) (hL : L < 2 ^ 31) (hi : i + 5 ≤ L) (hI : lwI h) (next : ∀ h', lwI h' → XW (x_rm d mc ms) k_Law_law L xs Z kc ks 612 [(0, .ref 0), (1, .ref 1), (2, .ref 113), (3, .int (nI i))] [] 138 h') : XW (x_rm d mc ms) k_Law_law L xs Z kc ks 448 [(0, .ref 0), (1, .ref 1), (2, .ref 113), (3, .int (nI i))] [] 138 h := by
  obtain ⟨ρ, ν, κ, cnt, D, fo, rq, tr, pv, pm, hR, hV, hQ, hP⟩ := hI
  have v0 := pv.1
  refine xr_aload_n a_Law_law_448 rfl ?_
  refine xr_invV a_Law_law_449 (by (repeat' (first | assumption | exact va_up_self _ _ _ | refine x_lk (by omega) ?_))) (t_VM_run (d := 30) pv hR hV hQ (by omega)) rfl rfl (by omega) (by omega) (by omega) (Nat.le_of_ble_eq_true rfl) ?_
  rintro _ _ h2 ⟨rfl, rfl, f2, pv2⟩
  have pm2 := pm.sm (f2.sm (a' := 113) (b' := 113 + 25) (by omega))
  obtain ⟨⟨st, ne, m0⟩, -⟩ := id pm2
  refine xr_aload_n a_Law_law_452 rfl ?_
  refine xr_invV a_Law_law_453 (by (repeat' (first | assumption | exact va_up_self _ _ _ | refine x_lk (by omega) ?_))) (t_Mod_run (d := 30) pm2 hR hV hQ (by omega)) rfl rfl (by omega) (by omega) (by omega) (Nat.le_of_ble_eq_true rfl) ?_
  rintro _ _ h3 ⟨rfl, rfl, f3, pm3⟩
  have pv3 := pv2.sm (f3.sm (a' := 1) (b' := 1 + 112) (by omega))
  refine xr_icmp_eq a_Law_law_456 (fun _ => ?_) (fun z => absurd rfl z)
  refine xr_ls [(0, .ref 0), (1, .ref 1), (2, .ref 113), (3, .int (nI i))] ⟨rfl, rfl, rfl, rfl, trivial⟩ ?_
  exact next h3 ⟨_, ν, κ, _, _, _, _, _, pv3, pm3, keep_run hR, hV, hQ, keep_plan hV hQ hP⟩
theorem lw_result (hd : 31 ≤ d) (hkc : kc ≤ mc) (hks : ks ≤ ms) (hL : L < 2 ^ 31) (hi : i + 5 ≤ L) (hI : lwI h) (next : ∀ h', lwI h' → XW (x_rm d mc ms) k_Law_law L xs Z kc ks 612 [(0, .ref 0), (1, .ref 1), (2, .ref 113), (3, .int (nI i))] [] 138 h') : XW (x_rm d mc ms) k_Law_law L xs Z kc ks 461 [(0, .ref 0), (1, .ref 1), (2, .ref 113), (3, .int (nI i))] [] 138 h := by
  obtain ⟨ρ, ν, κ, cnt, D, fo, rq, tr, pv, pm, hR, hV, hQ, hP⟩ := hI
  have v0 := pv.1
  obtain ⟨⟨st, ne, m0⟩, -⟩ := id pm
  refine xr_aload_n a_Law_law_461 rfl ?_
  refine xr_aload_n a_Law_law_462 rfl ?_
  refine xr_iload_n a_Law_law_463 rfl ?_
  refine xr_iconst a_Law_law_464 (v := nI 1) (by decide +kernel) ?_
  first | refine xn_iadd a_Law_law_465 ?_ | refine xr_iadd a_Law_law_465 ?_
  refine xr_sload a_Law_law_466 rfl (by omega) (by omega) ?_
  refine xr_invV a_Law_law_467 (by (repeat' (first | assumption | exact va_up_self _ _ _ | refine x_lk (by omega) ?_))) (t_VM_result (d := 30) pv (by omega)) rfl rfl (by omega) (by omega) (by omega) (Nat.le_of_ble_eq_true rfl) ?_
  rintro _ _ h1 ⟨rfl, rfl, rfl⟩
  refine xr_aload_n a_Law_law_470 rfl ?_
  refine xr_aload_n a_Law_law_471 rfl ?_
  refine xr_iload_n a_Law_law_472 rfl ?_
  refine xr_iconst a_Law_law_473 (v := nI 1) (by decide +kernel) ?_
  first | refine xn_iadd a_Law_law_474 ?_ | refine xr_iadd a_Law_law_474 ?_
  refine xr_sload a_Law_law_475 rfl (by omega) (by omega) ?_
  refine xr_invV a_Law_law_476 (by (repeat' (first | assumption | exact va_up_self _ _ _ | refine x_lk (by omega) ?_))) (t_Mod_result (d := 30) pm) rfl rfl (by omega) (by omega) (by omega) (Nat.le_of_ble_eq_true rfl) ?_
  rintro _ _ h1 ⟨rfl, rfl, rfl⟩
  refine xr_icmp_eq a_Law_law_479 (fun _ => ?_) (fun z => absurd rfl z)
  refine xr_ls [(0, .ref 0), (1, .ref 1), (2, .ref 113), (3, .int (nI i))] ⟨rfl, rfl, rfl, rfl, trivial⟩ ?_
  exact next h ⟨ρ, ν, κ, cnt, D, fo, rq, tr, pv, pm, hR, hV, hQ, hP⟩
theorem lw_disjuncts (hd : 31 ≤ d) (hkc : kc ≤ mc) (hks : ks ≤ ms) (hL : L < 2 ^ 31) (hi : i + 5 ≤ L) (hI : lwI h) (next : ∀ h', lwI h' → XW (x_rm d mc ms) k_Law_law L xs Z kc ks 612 [(0, .ref 0), (1, .ref 1), (2, .ref 113), (3, .int (nI i))] [] 138 h') : XW (x_rm d mc ms) k_Law_law L xs Z kc ks 484 [(0, .ref 0), (1, .ref 1), (2, .ref 113), (3, .int (nI i))] [] 138 h := by
  obtain ⟨ρ, ν, κ, cnt, D, fo, rq, tr, pv, pm, hR, hV, hQ, hP⟩ := hI
  have v0 := pv.1
  obtain ⟨⟨st, ne, m0⟩, -⟩ := id pm
  refine xr_aload_n a_Law_law_484 rfl ?_
  refine xr_invV a_Law_law_485 (by (repeat' (first | assumption | exact va_up_self _ _ _ | refine x_lk (by omega) ?_))) (t_VM_disjuncts (d := 30) pv) rfl rfl (by omega) (by omega) (by omega) (Nat.le_of_ble_eq_true rfl) ?_
  rintro _ _ h1 ⟨rfl, rfl, rfl⟩
  refine xr_aload_n a_Law_law_488 rfl ?_
  refine xr_invV a_Law_law_489 (by (repeat' (first | assumption | exact va_up_self _ _ _ | refine x_lk (by omega) ?_))) (t_Mod_disjuncts (d := 30) pm) rfl rfl (by omega) (by omega) (by omega) (Nat.le_of_ble_eq_true rfl) ?_
  rintro _ _ h1 ⟨rfl, rfl, rfl⟩
  refine xr_icmp_eq a_Law_law_492 (fun _ => ?_) (fun z => absurd rfl z)
  refine xr_ls [(0, .ref 0), (1, .ref 1), (2, .ref 113), (3, .int (nI i))] ⟨rfl, rfl, rfl, rfl, trivial⟩ ?_
  exact next h ⟨ρ, ν, κ, cnt, D, fo, rq, tr, pv, pm, hR, hV, hQ, hP⟩
theorem lw_size (hd : 31 ≤ d) (hkc : kc ≤ mc) (hks : ks ≤ ms) (hL : L < 2 ^ 31) (hi : i + 5 ≤ L) (hI : lwI h) (next : ∀ h', lwI h' → XW (x_rm d mc ms) k_Law_law L xs Z kc ks 612 [(0, .ref 0), (1, .ref 1), (2, .ref 113), (3, .int (nI i))] [] 138 h') : XW (x_rm d mc ms) k_Law_law L xs Z kc ks 497 [(0, .ref 0), (1, .ref 1), (2, .ref 113), (3, .int (nI i))] [] 138 h := by
  obtain ⟨ρ, ν, κ, cnt, D, fo, rq, tr, pv, pm, hR, hV, hQ, hP⟩ := hI
  have v0 := pv.1
  obtain ⟨⟨st, ne, m0⟩, -⟩ := id pm
  refine xr_aload_n a_Law_law_497 rfl ?_
  refine xr_aload_n a_Law_law_498 rfl ?_
  refine xr_iload_n a_Law_law_499 rfl ?_
  refine xr_iconst a_Law_law_500 (v := nI 1) (by decide +kernel) ?_
  first | refine xn_iadd a_Law_law_501 ?_ | refine xr_iadd a_Law_law_501 ?_
  refine xr_sload a_Law_law_502 rfl (by omega) (by omega) ?_
  refine xr_invV a_Law_law_503 (by (repeat' (first | assumption | exact va_up_self _ _ _ | refine x_lk (by omega) ?_))) (t_VM_size (d := 30) pv hP.1 (by omega)) rfl rfl (by omega) (by omega) (by omega) (Nat.le_of_ble_eq_true rfl) ?_
  rintro _ _ h1 ⟨rfl, rfl, rfl⟩
  refine xr_aload_n a_Law_law_506 rfl ?_
  refine xr_aload_n a_Law_law_507 rfl ?_
  refine xr_iload_n a_Law_law_508 rfl ?_
  refine xr_iconst a_Law_law_509 (v := nI 1) (by decide +kernel) ?_
  first | refine xn_iadd a_Law_law_510 ?_ | refine xr_iadd a_Law_law_510 ?_
  refine xr_sload a_Law_law_511 rfl (by omega) (by omega) ?_
  refine xr_invV a_Law_law_512 (by (repeat' (first | assumption | exact va_up_self _ _ _ | refine x_lk (by omega) ?_))) (t_Mod_size (d := 30) pm hP.1) rfl rfl (by omega) (by omega) (by omega) (Nat.le_of_ble_eq_true rfl) ?_
  rintro _ _ h1 ⟨rfl, rfl, rfl⟩
  refine xr_icmp_eq a_Law_law_515 (fun _ => ?_) (fun z => absurd rfl z)
  refine xr_ls [(0, .ref 0), (1, .ref 1), (2, .ref 113), (3, .int (nI i))] ⟨rfl, rfl, rfl, rfl, trivial⟩ ?_
  exact next h ⟨ρ, ν, κ, cnt, D, fo, rq, tr, pv, pm, hR, hV, hQ, hP⟩
theorem lw_atomAt (hd : 31 ≤ d) (hkc : kc ≤ mc) (hks : ks ≤ ms) (hL : L < 2 ^ 31) (hi : i + 5 ≤ L) (hI : lwI h) (next : ∀ h', lwI h' → XW (x_rm d mc ms) k_Law_law L xs Z kc ks 612 [(0, .ref 0), (1, .ref 1), (2, .ref 113), (3, .int (nI i))] [] 138 h') : XW (x_rm d mc ms) k_Law_law L xs Z kc ks 520 [(0, .ref 0), (1, .ref 1), (2, .ref 113), (3, .int (nI i))] [] 138 h := by
  obtain ⟨ρ, ν, κ, cnt, D, fo, rq, tr, pv, pm, hR, hV, hQ, hP⟩ := hI
  have v0 := pv.1
  obtain ⟨⟨st, ne, m0⟩, -⟩ := id pm
  refine xr_aload_n a_Law_law_520 rfl ?_
  refine xr_aload_n a_Law_law_521 rfl ?_
  refine xr_iload_n a_Law_law_522 rfl ?_
  refine xr_iconst a_Law_law_523 (v := nI 1) (by decide +kernel) ?_
  first | refine xn_iadd a_Law_law_524 ?_ | refine xr_iadd a_Law_law_524 ?_
  refine xr_sload a_Law_law_525 rfl (by omega) (by omega) ?_
  refine xr_aload_n a_Law_law_526 rfl ?_
  refine xr_iload_n a_Law_law_527 rfl ?_
  refine xr_iconst a_Law_law_528 (v := nI 2) (by decide +kernel) ?_
  first | refine xn_iadd a_Law_law_529 ?_ | refine xr_iadd a_Law_law_529 ?_
  refine xr_sload a_Law_law_530 rfl (by omega) (by omega) ?_
  refine xr_invV a_Law_law_531 (by (repeat' (first | assumption | exact va_up_self _ _ _ | refine x_lk (by omega) ?_))) (t_VM_atomAt (d := 30) pv hP.1 hP.2 (by omega)) rfl rfl (by omega) (by omega) (by omega) (Nat.le_of_ble_eq_true rfl) ?_
  rintro _ _ h1 ⟨rfl, rfl, rfl⟩
  refine xr_aload_n a_Law_law_534 rfl ?_
  refine xr_aload_n a_Law_law_535 rfl ?_
  refine xr_iload_n a_Law_law_536 rfl ?_
  refine xr_iconst a_Law_law_537 (v := nI 1) (by decide +kernel) ?_
  first | refine xn_iadd a_Law_law_538 ?_ | refine xr_iadd a_Law_law_538 ?_
  refine xr_sload a_Law_law_539 rfl (by omega) (by omega) ?_
  refine xr_aload_n a_Law_law_540 rfl ?_
  refine xr_iload_n a_Law_law_541 rfl ?_
  refine xr_iconst a_Law_law_542 (v := nI 2) (by decide +kernel) ?_
  first | refine xn_iadd a_Law_law_543 ?_ | refine xr_iadd a_Law_law_543 ?_
  refine xr_sload a_Law_law_544 rfl (by omega) (by omega) ?_
  refine xr_invV a_Law_law_545 (by (repeat' (first | assumption | exact va_up_self _ _ _ | refine x_lk (by omega) ?_))) (t_Mod_atomAt (d := 30) pm hP.1 hP.2 (by omega)) rfl rfl (by omega) (by omega) (by omega) (Nat.le_of_ble_eq_true rfl) ?_
  rintro _ _ h1 ⟨rfl, rfl, rfl⟩
  refine xr_icmp_eq a_Law_law_548 (fun _ => ?_) (fun z => absurd rfl z)
  refine xr_ls [(0, .ref 0), (1, .ref 1), (2, .ref 113), (3, .int (nI i))] ⟨rfl, rfl, rfl, rfl, trivial⟩ ?_
  exact next h ⟨ρ, ν, κ, cnt, D, fo, rq, tr, pv, pm, hR, hV, hQ, hP⟩
theorem lw_patternAt (hd : 31 ≤ d) (hkc : kc ≤ mc) (hks : ks ≤ ms) (hL : L < 2 ^ 31) (hi : i + 5 ≤ L) (hI : lwI h) (next : ∀ h', lwI h' → XW (x_rm d mc ms) k_Law_law L xs Z kc ks 612 [(0, .ref 0), (1, .ref 1), (2, .ref 113), (3, .int (nI i))] [] 138 h') : XW (x_rm d mc ms) k_Law_law L xs Z kc ks 553 [(0, .ref 0), (1, .ref 1), (2, .ref 113), (3, .int (nI i))] [] 138 h := by
  obtain ⟨ρ, ν, κ, cnt, D, fo, rq, tr, pv, pm, hR, hV, hQ, hP⟩ := hI
  have v0 := pv.1
  obtain ⟨⟨st, ne, m0⟩, -⟩ := id pm
  refine xr_aload_n a_Law_law_553 rfl ?_
  refine xr_aload_n a_Law_law_554 rfl ?_
  refine xr_iload_n a_Law_law_555 rfl ?_
  refine xr_iconst a_Law_law_556 (v := nI 1) (by decide +kernel) ?_
  first | refine xn_iadd a_Law_law_557 ?_ | refine xr_iadd a_Law_law_557 ?_
  refine xr_sload a_Law_law_558 rfl (by omega) (by omega) ?_
  refine xr_aload_n a_Law_law_559 rfl ?_
  refine xr_iload_n a_Law_law_560 rfl ?_
  refine xr_iconst a_Law_law_561 (v := nI 2) (by decide +kernel) ?_
  first | refine xn_iadd a_Law_law_562 ?_ | refine xr_iadd a_Law_law_562 ?_
  refine xr_sload a_Law_law_563 rfl (by omega) (by omega) ?_
  refine xr_invV a_Law_law_564 (by (repeat' (first | assumption | exact va_up_self _ _ _ | refine x_lk (by omega) ?_))) (t_VM_patternAt (d := 30) pv hP.1 hP.2 (by omega)) rfl rfl (by omega) (by omega) (by omega) (Nat.le_of_ble_eq_true rfl) ?_
  rintro _ _ h1 ⟨rfl, rfl, rfl⟩
  refine xr_aload_n a_Law_law_567 rfl ?_
  refine xr_aload_n a_Law_law_568 rfl ?_
  refine xr_iload_n a_Law_law_569 rfl ?_
  refine xr_iconst a_Law_law_570 (v := nI 1) (by decide +kernel) ?_
  first | refine xn_iadd a_Law_law_571 ?_ | refine xr_iadd a_Law_law_571 ?_
  refine xr_sload a_Law_law_572 rfl (by omega) (by omega) ?_
  refine xr_aload_n a_Law_law_573 rfl ?_
  refine xr_iload_n a_Law_law_574 rfl ?_
  refine xr_iconst a_Law_law_575 (v := nI 2) (by decide +kernel) ?_
  first | refine xn_iadd a_Law_law_576 ?_ | refine xr_iadd a_Law_law_576 ?_
  refine xr_sload a_Law_law_577 rfl (by omega) (by omega) ?_
  refine xr_invV a_Law_law_578 (by (repeat' (first | assumption | exact va_up_self _ _ _ | refine x_lk (by omega) ?_))) (t_Mod_patternAt (d := 30) pm hP.1 hP.2 (by omega)) rfl rfl (by omega) (by omega) (by omega) (Nat.le_of_ble_eq_true rfl) ?_
  rintro _ _ h1 ⟨rfl, rfl, rfl⟩
  refine xr_icmp_eq a_Law_law_581 (fun _ => ?_) (fun z => absurd rfl z)
  refine xr_ls [(0, .ref 0), (1, .ref 1), (2, .ref 113), (3, .int (nI i))] ⟨rfl, rfl, rfl, rfl, trivial⟩ ?_
  exact next h ⟨ρ, ν, κ, cnt, D, fo, rq, tr, pv, pm, hR, hV, hQ, hP⟩
theorem lw_requests (hd : 31 ≤ d) (hkc : kc ≤ mc) (hks : ks ≤ ms) (hL : L < 2 ^ 31) (hi : i + 5 ≤ L) (hI : lwI h) (next : ∀ h', lwI h' → XW (x_rm d mc ms) k_Law_law L xs Z kc ks 612 [(0, .ref 0), (1, .ref 1), (2, .ref 113), (3, .int (nI i))] [] 138 h') : XW (x_rm d mc ms) k_Law_law L xs Z kc ks 586 [(0, .ref 0), (1, .ref 1), (2, .ref 113), (3, .int (nI i))] [] 138 h := by
  obtain ⟨ρ, ν, κ, cnt, D, fo, rq, tr, pv, pm, hR, hV, hQ, hP⟩ := hI
  have v0 := pv.1
  obtain ⟨⟨st, ne, m0⟩, -⟩ := id pm
  refine xr_aload_n a_Law_law_586 rfl ?_
  refine xr_invV a_Law_law_587 (by (repeat' (first | assumption | exact va_up_self _ _ _ | refine x_lk (by omega) ?_))) (t_VM_requests (d := 30) pv) rfl rfl (by omega) (by omega) (by omega) (Nat.le_of_ble_eq_true rfl) ?_
  rintro _ _ h1 ⟨rfl, rfl, rfl⟩
  refine xr_aload_n a_Law_law_590 rfl ?_
  refine xr_invV a_Law_law_591 (by (repeat' (first | assumption | exact va_up_self _ _ _ | refine x_lk (by omega) ?_))) (t_Mod_requests (d := 30) pm) rfl rfl (by omega) (by omega) (by omega) (Nat.le_of_ble_eq_true rfl) ?_
  rintro _ _ h1 ⟨rfl, rfl, rfl⟩
  refine xr_icmp_eq a_Law_law_594 (fun _ => ?_) (fun z => absurd rfl z)
  refine xr_ls [(0, .ref 0), (1, .ref 1), (2, .ref 113), (3, .int (nI i))] ⟨rfl, rfl, rfl, rfl, trivial⟩ ?_
  exact next h ⟨ρ, ν, κ, cnt, D, fo, rq, tr, pv, pm, hR, hV, hQ, hP⟩
theorem lw_tries (hd : 31 ≤ d) (hkc : kc ≤ mc) (hks : ks ≤ ms) (hL : L < 2 ^ 31) (hi : i + 5 ≤ L) (hI : lwI h) (next : ∀ h', lwI h' → XW (x_rm d mc ms) k_Law_law L xs Z kc ks 612 [(0, .ref 0), (1, .ref 1), (2, .ref 113), (3, .int (nI i))] [] 138 h') : XW (x_rm d mc ms) k_Law_law L xs Z kc ks 599 [(0, .ref 0), (1, .ref 1), (2, .ref 113), (3, .int (nI i))] [] 138 h := by
  obtain ⟨ρ, ν, κ, cnt, D, fo, rq, tr, pv, pm, hR, hV, hQ, hP⟩ := hI
  have v0 := pv.1
  obtain ⟨⟨st, ne, m0⟩, -⟩ := id pm
  refine xr_aload_n a_Law_law_599 rfl ?_
  refine xr_invV a_Law_law_600 (by (repeat' (first | assumption | exact va_up_self _ _ _ | refine x_lk (by omega) ?_))) (t_VM_tries (d := 30) pv) rfl rfl (by omega) (by omega) (by omega) (Nat.le_of_ble_eq_true rfl) ?_
  rintro _ _ h1 ⟨rfl, rfl, rfl⟩
  refine xr_aload_n a_Law_law_603 rfl ?_
  refine xr_invV a_Law_law_604 (by (repeat' (first | assumption | exact va_up_self _ _ _ | refine x_lk (by omega) ?_))) (t_Mod_tries (d := 30) pm) rfl rfl (by omega) (by omega) (by omega) (Nat.le_of_ble_eq_true rfl) ?_
  rintro _ _ h1 ⟨rfl, rfl, rfl⟩
  refine xr_icmp_eq a_Law_law_607 (fun _ => ?_) (fun z => absurd rfl z)
  refine xr_ls [(0, .ref 0), (1, .ref 1), (2, .ref 113), (3, .int (nI i))] ⟨rfl, rfl, rfl, rfl, trivial⟩ ?_
  exact next h ⟨ρ, ν, κ, cnt, D, fo, rq, tr, pv, pm, hR, hV, hQ, hP⟩
theorem lw_loop (hd : 31 ≤ d) (hkc : kc ≤ mc) (hks : ks ≤ ms) (hL : L < 2 ^ 30) (fin : ∀ h' : xH, XW (x_rm d mc ms) k_Law_law L xs Z kc ks 618 [] [] 138 h') : ∀ (k i : Nat) (h : xH), L < i + k → i < L + 6 → lwI h → XW (x_rm d mc ms) k_Law_law L xs Z kc ks 18 [(0, .ref 0), (1, .ref 1), (2, .ref 113), (3, .int (nI i))] [] 138 h := by
  intro k
  induction k with
  | zero =>
    intro i h hk hi6 hI
    refine xr_iload_n a_Law_law_18 rfl ?_
    refine xr_aload_n a_Law_law_19 rfl ?_
    refine xr_slen a_Law_law_20 ?_
    refine xr_iconst a_Law_law_21 (v := nI 5) (by decide +kernel) ?_
    exact lw_end (by omega) hL (by omega) (fin h)
  | succ k ih =>
    intro i h hk hi6 hI
    by_cases hi : i + 5 ≤ L
    · have next : ∀ h', lwI h' → XW (x_rm d mc ms) k_Law_law L xs Z kc ks 612 [(0, .ref 0), (1, .ref 1), (2, .ref 113), (3, .int (nI i))] [] 138 h' := by
        intro h' hI'
        refine xr_iinc a_Law_law_612 rfl (x_i5 _) (by decide) rfl ?_
        refine xr_goto a_Law_law_615 ?_
        refine xr_ls [(0, .ref 0), (1, .ref 1), (2, .ref 113), (3, .int (nI (i + 5)))] ⟨rfl, rfl, rfl, rfl, trivial⟩ ?_
        exact ih (i + 5) h' (by omega) (by omega) hI'
      refine xr_iload_n a_Law_law_18 rfl ?_
      refine xr_aload_n a_Law_law_19 rfl ?_
      refine xr_slen a_Law_law_20 ?_
      refine xr_iconst a_Law_law_21 (v := nI 5) (by decide +kernel) ?_
      refine xn_isub a_Law_law_22 (by omega) ?_
      refine xn_icmp_gt a_Law_law_23 (by omega) (by omega) (fun b23 => by omega) (fun _ => ?_)
      refine xr_aload_n a_Law_law_26 rfl ?_
      refine xr_iload_n a_Law_law_27 rfl ?_
      refine xr_sload a_Law_law_28 rfl (by omega) (by omega) ?_
      refine xr_bipush a_Law_law_29 (v := nI 31) (by decide +kernel) ?_
      refine xr_iand a_Law_law_31 ?_
      obtain ⟨j, hj, e⟩ := and31 (xs i)
      rw [e]
      clear e
      match j, hj with
      | 0, _ => exact xr_tableIn (off := 88) (tgt := 120) a_Law_law_32 (by decide +kernel) (by decide +kernel) (by decide +kernel) (by decide +kernel) (lw_fact hd hkc hks (by omega) hi hI next)
      | 1, _ => exact xr_tableIn (off := 131) (tgt := 163) a_Law_law_32 (by decide +kernel) (by decide +kernel) (by decide +kernel) (by decide +kernel) (lw_retract hd hkc hks (by omega) hi hI next)
      | 2, _ => exact xr_tableIn (off := 174) (tgt := 206) a_Law_law_32 (by decide +kernel) (by decide +kernel) (by decide +kernel) (by decide +kernel) (lw_allow hd hkc hks (by omega) hi hI next)
      | 3, _ => exact xr_tableIn (off := 207) (tgt := 239) a_Law_law_32 (by decide +kernel) (by decide +kernel) (by decide +kernel) (by decide +kernel) (lw_fail hd hkc hks (by omega) hi hI next)
      | 4, _ => exact xr_tableIn (off := 240) (tgt := 272) a_Law_law_32 (by decide +kernel) (by decide +kernel) (by decide +kernel) (by decide +kernel) (lw_failures hd hkc hks (by omega) hi hI next)
      | 5, _ => exact xr_tableIn (off := 263) (tgt := 295) a_Law_law_32 (by decide +kernel) (by decide +kernel) (by decide +kernel) (by decide +kernel) (lw_rule hd hkc hks (by omega) hi hI next)
      | 6, _ => exact xr_tableIn (off := 286) (tgt := 318) a_Law_law_32 (by decide +kernel) (by decide +kernel) (by decide +kernel) (by decide +kernel) (lw_atom hd hkc hks (by omega) hi hI next)
      | 7, _ => exact xr_tableIn (off := 339) (tgt := 371) a_Law_law_32 (by decide +kernel) (by decide +kernel) (by decide +kernel) (by decide +kernel) (lw_forget hd hkc hks (by omega) hi hI next)
      | 8, _ => exact xr_tableIn (off := 362) (tgt := 394) a_Law_law_32 (by decide +kernel) (by decide +kernel) (by decide +kernel) (by decide +kernel) (lw_ask hd hkc hks (by omega) hi hI next)
      | 9, _ => exact xr_tableIn (off := 405) (tgt := 437) a_Law_law_32 (by decide +kernel) (by decide +kernel) (by decide +kernel) (by decide +kernel) (lw_clear hd hkc hks (by omega) hi hI next)
      | 10, _ => exact xr_tableIn (off := 416) (tgt := 448) a_Law_law_32 (by decide +kernel) (by decide +kernel) (by decide +kernel) (by decide +kernel) (lw_run hd hkc hks (by omega) hi hI next)
      | 11, _ => exact xr_tableIn (off := 429) (tgt := 461) a_Law_law_32 (by decide +kernel) (by decide +kernel) (by decide +kernel) (by decide +kernel) (lw_result hd hkc hks (by omega) hi hI next)
      | 12, _ => exact xr_tableIn (off := 452) (tgt := 484) a_Law_law_32 (by decide +kernel) (by decide +kernel) (by decide +kernel) (by decide +kernel) (lw_disjuncts hd hkc hks (by omega) hi hI next)
      | 13, _ => exact xr_tableIn (off := 465) (tgt := 497) a_Law_law_32 (by decide +kernel) (by decide +kernel) (by decide +kernel) (by decide +kernel) (lw_size hd hkc hks (by omega) hi hI next)
      | 14, _ => exact xr_tableIn (off := 488) (tgt := 520) a_Law_law_32 (by decide +kernel) (by decide +kernel) (by decide +kernel) (by decide +kernel) (lw_atomAt hd hkc hks (by omega) hi hI next)
      | 15, _ => exact xr_tableIn (off := 521) (tgt := 553) a_Law_law_32 (by decide +kernel) (by decide +kernel) (by decide +kernel) (by decide +kernel) (lw_patternAt hd hkc hks (by omega) hi hI next)
      | 16, _ => exact xr_tableIn (off := 554) (tgt := 586) a_Law_law_32 (by decide +kernel) (by decide +kernel) (by decide +kernel) (by decide +kernel) (lw_requests hd hkc hks (by omega) hi hI next)
      | 17, _ => exact xr_tableIn (off := 567) (tgt := 599) a_Law_law_32 (by decide +kernel) (by decide +kernel) (by decide +kernel) (by decide +kernel) (lw_tries hd hkc hks (by omega) hi hI next)
      | j + 18, hj =>
        refine xr_tableOut (tgt := 612) a_Law_law_32 (Or.inr ?_) (by decide +kernel) (next h hI)
        rw [nI_toInt (by omega)]
        omega
    · refine xr_iload_n a_Law_law_18 rfl ?_
      refine xr_aload_n a_Law_law_19 rfl ?_
      refine xr_slen a_Law_law_20 ?_
      refine xr_iconst a_Law_law_21 (v := nI 5) (by decide +kernel) ?_
      exact lw_end (by omega) hL (by omega) (fin h)
theorem lw_main (hd : 31 ≤ d) (hL : L < 2 ^ 30) (hmc : 200 ≤ mc) (hms : 20000 ≤ ms) (fin : ∀ h' : xH, XW (x_rm d mc ms) k_Law_law L xs Z 137 11544 618 [] [] 138 h') (h : xH) : XW (x_rm d mc ms) k_Law_law L xs Z 0 0 0 [(0, .ref 0)] [] 1 h := by
  refine xr_new a_Law_law_0 (by omega) (by omega) ?_
  refine xr_dup a_Law_law_3 rfl ?_
  refine xr_invI a_Law_law_4 (by omega) (t_VM_init (d := 30) (v := 1) (up_self _ _ _) (by omega)) rfl rfl (by omega) (by omega) (by omega) (Nat.le_of_ble_eq_true rfl) ?_
  rintro _ _ h2 ⟨rfl, rfl, f2, pv⟩
  refine xr_astore_n a_Law_law_7 (by decide) rfl ?_
  refine xr_new a_Law_law_8 (by omega) (by omega) ?_
  refine xr_dup a_Law_law_11 rfl ?_
  refine xr_invI a_Law_law_12 (by omega) (t_Mod_init (d := 30) (m := 113) (up_self _ _ _) (by omega)) rfl rfl (by omega) (by omega) (by omega) (Nat.le_of_ble_eq_true rfl) ?_
  rintro _ _ h3 ⟨rfl, rfl, f3, pm⟩
  refine xr_astore_n a_Law_law_15 (by decide) rfl ?_
  refine xr_iconst a_Law_law_16 (v := nI 0) (by decide +kernel) ?_
  refine xr_istore_n a_Law_law_17 (by decide) rfl ?_
  refine xr_ls [(0, .ref 0), (1, .ref 1), (2, .ref 113), (3, .int (nI 0))] ⟨rfl, rfl, rfl, rfl, trivial⟩ ?_
  have pv3 := pv.sm (xsm.tr (xsm_up (q := 113) (by omega)) (f3.sm (by omega)))
  refine lw_loop hd (by omega) (by omega) hL fin (L + 1) 0 h3 (by omega) (by omega) ⟨_, _, _, _, _, _, _, _, pv3, pm, ?_, ?_, ?_, ?_⟩
  · exact ⟨fun r hr => ⟨Nat.zero_le _, fun i hi => absurd hi (Nat.not_lt_zero i)⟩, fun r hr => ⟨Nat.le_of_ble_eq_true rfl, Nat.le_of_ble_eq_true rfl⟩⟩
  · exact vSV_iff.mpr (fun v hv => ⟨Nat.zero_le _, fun i hi => absurd hi (Nat.not_lt_zero i)⟩)
  · exact ⟨Nat.zero_le _, fun i hi => absurd hi (Nat.not_lt_zero i)⟩
  · exact ⟨Nat.zero_le _, fun i hi => absurd hi (Nat.not_lt_zero i)⟩
end T71

