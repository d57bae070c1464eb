-- ===== end of PART A; then your names; then what follows =====
/-! THE CLAIM OUT OF ONE WALK OF THE LAW'S BODY. Your part is whole_start (and what it stands on); all else here is the same for every law, but numbers. -/
def R_law : String := "PromiseChainsLaw"
def lw_P (b : Addr) (xs : List Int32) (args : Array Value) (s : State) : Prop := args = #[.ref b] ∧ s.IntsAt b xs ∧ xs.length ≤ 2560 ∧ (Jvm.Cond.and given_1 narrow_1).before args s = true
def lw_Q (_ : Array Value) (s : State) (o : Outcome) (t : State) : Prop := o = .returned (some (.int 1)) ∧ Framed s o t [] 600000 7302250
def lw_Z (below : List Frame) (a : Array Value) (s : State) : State → Prop := fun t => ∃ o, t.status = .running ∧ Ended t below o ∧ lw_Q a s o t
/-- the law's own end, with 1 on the stack, nothing written that was there before, its room as the claim has it -/
theorem lw_ret {p : Program} {l : Launch} {e : Env} {s : State} {m : MethodId} {below : List Frame} {meth : Method} {c : Code} {b : Nat} (hx : p.tables.exec = Jvm.exec) (hb : c.code = code) (hr : meth.sig.returnType = ret) (hlocks : meth.locks = false) {pc : Nat} {H : Heap} {ls : Array Slot} (hdg : decode code pc = .ok (.ireturn, 1)) : W p l e room_1 s m #[Value.ref b] below meth c H [] 600000 7302250 (lw_Z below #[Value.ref b] s) (F0 m pc ls [.int 1]) := by
  intro T hT X
  obtain ⟨fs, hret, hrun, hended, hW, hframe⟩ := X.leave (v := some (.int 1)) (hlocks := hlocks) (fun h => by rw [hr] at h; cases h)
  have hmeth' : T.vm.method? m = some meth := X.method'
  refine ⟨T.setFrames fs, ?_, .returned (some (.int 1)), hrun, hended, rfl, ⟨_, rfl⟩, hW, hframe⟩
  jvm_step X.here [X.here.top, hx, hb, hdg, hmeth', hr, ret, narrow_b1]
  (try refine ⟨rfl, ?_⟩); (try refine ⟨rfl, ?_⟩)
  first | (intro acts; rw [hret _ acts rfl rfl rfl]) | rw [hret _ _ rfl rfl rfl]
  exact Steps.refl _
/-- what holds at the law's entry: the machine, the code, the tables' words (any of lw_tbl by 'hts w (by decide +kernel)'), the script of L ints xs at the cell b, what the Statement gives of the start (any of its parts by flat_of_before) -/
def lw_At (p : Program) (s : State) (m : MethodId) (meth : Method) (c : Code) (b L : Nat) (xs : Nat → Int32) : Prop :=
  p.tables.exec = Jvm.exec ∧ c.code = code ∧ meth.sig.returnType = ret ∧ c.maxLocals = 4 ∧ s.vm.findClass R_law = some m.cls ∧ (∀ w ∈ lw_tbl, w.before #[Value.ref b] s = true) ∧ va_X b L xs s s.heap ∧ b < s.heap.size ∧ meth.locks = false ∧ (Jvm.Cond.and given_1 narrow_1).before #[Value.ref b] s = true
theorem gd_LA_law_148 : (decode code 148 = .ok (.aload_n 1, 1)) ∧ (decode code 149 = .ok (.aload_n 0, 1)) ∧ (decode code 150 = .ok (.iload_n 3, 1)) ∧ (decode code 151 = .ok (.iconst 1, 1)) ∧ (decode code 152 = .ok (.iadd, 1)) ∧ (decode code 153 = .ok (.iaload, 1)) ∧ (decode code 154 = .ok (.invokevirtual 13, 3)) ∧ (decode code 157 = .ok (.pop, 1)) ∧ (decode code 158 = .ok (.aload_n 2, 1)) ∧ (decode code 159 = .ok (.aload_n 0, 1)) := by decide +kernel
theorem d_LA_law_148 : decode code 148 = .ok (.aload_n 1, 1) := gd_LA_law_148.1
theorem d_LA_law_149 : decode code 149 = .ok (.aload_n 0, 1) := gd_LA_law_148.2.1
theorem d_LA_law_150 : decode code 150 = .ok (.iload_n 3, 1) := gd_LA_law_148.2.2.1
theorem d_LA_law_151 : decode code 151 = .ok (.iconst 1, 1) := gd_LA_law_148.2.2.2.1
theorem d_LA_law_152 : decode code 152 = .ok (.iadd, 1) := gd_LA_law_148.2.2.2.2.1
theorem d_LA_law_153 : decode code 153 = .ok (.iaload, 1) := gd_LA_law_148.2.2.2.2.2.1
theorem d_LA_law_154 : decode code 154 = .ok (.invokevirtual 13, 3) := gd_LA_law_148.2.2.2.2.2.2.1
theorem d_LA_law_157 : decode code 157 = .ok (.pop, 1) := gd_LA_law_148.2.2.2.2.2.2.2.1
theorem d_LA_law_158 : decode code 158 = .ok (.aload_n 2, 1) := gd_LA_law_148.2.2.2.2.2.2.2.2.1
theorem d_LA_law_159 : decode code 159 = .ok (.aload_n 0, 1) := gd_LA_law_148.2.2.2.2.2.2.2.2.2
theorem gd_LA_law_160 : (decode code 160 = .ok (.iload_n 3, 1)) ∧ (decode code 161 = .ok (.iconst 1, 1)) ∧ (decode code 162 = .ok (.iadd, 1)) ∧ (decode code 163 = .ok (.iaload, 1)) ∧ (decode code 164 = .ok (.invokevirtual 17, 3)) ∧ (decode code 167 = .ok (.pop, 1)) ∧ (decode code 168 = .ok (.goto 741, 3)) ∧ (decode code 171 = .ok (.aload_n 1, 1)) ∧ (decode code 172 = .ok (.aload_n 0, 1)) ∧ (decode code 173 = .ok (.iload_n 3, 1)) := by decide +kernel
theorem d_LA_law_160 : decode code 160 = .ok (.iload_n 3, 1) := gd_LA_law_160.1
theorem d_LA_law_161 : decode code 161 = .ok (.iconst 1, 1) := gd_LA_law_160.2.1
theorem d_LA_law_162 : decode code 162 = .ok (.iadd, 1) := gd_LA_law_160.2.2.1
theorem d_LA_law_163 : decode code 163 = .ok (.iaload, 1) := gd_LA_law_160.2.2.2.1
theorem d_LA_law_164 : decode code 164 = .ok (.invokevirtual 17, 3) := gd_LA_law_160.2.2.2.2.1
theorem d_LA_law_167 : decode code 167 = .ok (.pop, 1) := gd_LA_law_160.2.2.2.2.2.1
theorem d_LA_law_168 : decode code 168 = .ok (.goto 741, 3) := gd_LA_law_160.2.2.2.2.2.2.1
theorem d_LA_law_171 : decode code 171 = .ok (.aload_n 1, 1) := gd_LA_law_160.2.2.2.2.2.2.2.1
theorem d_LA_law_172 : decode code 172 = .ok (.aload_n 0, 1) := gd_LA_law_160.2.2.2.2.2.2.2.2.1
theorem d_LA_law_173 : decode code 173 = .ok (.iload_n 3, 1) := gd_LA_law_160.2.2.2.2.2.2.2.2.2
theorem gd_LA_law_174 : (decode code 174 = .ok (.iconst 1, 1)) ∧ (decode code 175 = .ok (.iadd, 1)) ∧ (decode code 176 = .ok (.iaload, 1)) ∧ (decode code 177 = .ok (.aload_n 0, 1)) ∧ (decode code 178 = .ok (.iload_n 3, 1)) ∧ (decode code 179 = .ok (.iconst 2, 1)) ∧ (decode code 180 = .ok (.iadd, 1)) ∧ (decode code 181 = .ok (.iaload, 1)) ∧ (decode code 182 = .ok (.aload_n 0, 1)) ∧ (decode code 183 = .ok (.iload_n 3, 1)) := by decide +kernel
theorem d_LA_law_174 : decode code 174 = .ok (.iconst 1, 1) := gd_LA_law_174.1
theorem d_LA_law_175 : decode code 175 = .ok (.iadd, 1) := gd_LA_law_174.2.1
theorem d_LA_law_176 : decode code 176 = .ok (.iaload, 1) := gd_LA_law_174.2.2.1
theorem d_LA_law_177 : decode code 177 = .ok (.aload_n 0, 1) := gd_LA_law_174.2.2.2.1
theorem d_LA_law_178 : decode code 178 = .ok (.iload_n 3, 1) := gd_LA_law_174.2.2.2.2.1
theorem d_LA_law_179 : decode code 179 = .ok (.iconst 2, 1) := gd_LA_law_174.2.2.2.2.2.1
theorem d_LA_law_180 : decode code 180 = .ok (.iadd, 1) := gd_LA_law_174.2.2.2.2.2.2.1
theorem d_LA_law_181 : decode code 181 = .ok (.iaload, 1) := gd_LA_law_174.2.2.2.2.2.2.2.1
theorem d_LA_law_182 : decode code 182 = .ok (.aload_n 0, 1) := gd_LA_law_174.2.2.2.2.2.2.2.2.1
theorem d_LA_law_183 : decode code 183 = .ok (.iload_n 3, 1) := gd_LA_law_174.2.2.2.2.2.2.2.2.2
theorem gd_LA_law_184 : (decode code 184 = .ok (.iconst 3, 1)) ∧ (decode code 185 = .ok (.iadd, 1)) ∧ (decode code 186 = .ok (.iaload, 1)) ∧ (decode code 187 = .ok (.aload_n 0, 1)) ∧ (decode code 188 = .ok (.iload_n 3, 1)) ∧ (decode code 189 = .ok (.iconst 4, 1)) ∧ (decode code 190 = .ok (.iadd, 1)) ∧ (decode code 191 = .ok (.iaload, 1)) ∧ (decode code 192 = .ok (.invokevirtual 18, 3)) ∧ (decode code 195 = .ok (.pop, 1)) := by decide +kernel
theorem d_LA_law_184 : decode code 184 = .ok (.iconst 3, 1) := gd_LA_law_184.1
theorem d_LA_law_185 : decode code 185 = .ok (.iadd, 1) := gd_LA_law_184.2.1
theorem d_LA_law_186 : decode code 186 = .ok (.iaload, 1) := gd_LA_law_184.2.2.1
theorem d_LA_law_187 : decode code 187 = .ok (.aload_n 0, 1) := gd_LA_law_184.2.2.2.1
theorem d_LA_law_188 : decode code 188 = .ok (.iload_n 3, 1) := gd_LA_law_184.2.2.2.2.1
theorem d_LA_law_189 : decode code 189 = .ok (.iconst 4, 1) := gd_LA_law_184.2.2.2.2.2.1
theorem d_LA_law_190 : decode code 190 = .ok (.iadd, 1) := gd_LA_law_184.2.2.2.2.2.2.1
theorem d_LA_law_191 : decode code 191 = .ok (.iaload, 1) := gd_LA_law_184.2.2.2.2.2.2.2.1
theorem d_LA_law_192 : decode code 192 = .ok (.invokevirtual 18, 3) := gd_LA_law_184.2.2.2.2.2.2.2.2.1
theorem d_LA_law_195 : decode code 195 = .ok (.pop, 1) := gd_LA_law_184.2.2.2.2.2.2.2.2.2
theorem gd_LA_law_196 : (decode code 196 = .ok (.aload_n 2, 1)) ∧ (decode code 197 = .ok (.aload_n 0, 1)) ∧ (decode code 198 = .ok (.iload_n 3, 1)) ∧ (decode code 199 = .ok (.iconst 1, 1)) ∧ (decode code 200 = .ok (.iadd, 1)) ∧ (decode code 201 = .ok (.iaload, 1)) ∧ (decode code 202 = .ok (.aload_n 0, 1)) ∧ (decode code 203 = .ok (.iload_n 3, 1)) ∧ (decode code 204 = .ok (.iconst 2, 1)) ∧ (decode code 205 = .ok (.iadd, 1)) := by decide +kernel
theorem d_LA_law_196 : decode code 196 = .ok (.aload_n 2, 1) := gd_LA_law_196.1
theorem d_LA_law_197 : decode code 197 = .ok (.aload_n 0, 1) := gd_LA_law_196.2.1
theorem d_LA_law_198 : decode code 198 = .ok (.iload_n 3, 1) := gd_LA_law_196.2.2.1
theorem d_LA_law_199 : decode code 199 = .ok (.iconst 1, 1) := gd_LA_law_196.2.2.2.1
theorem d_LA_law_200 : decode code 200 = .ok (.iadd, 1) := gd_LA_law_196.2.2.2.2.1
theorem d_LA_law_201 : decode code 201 = .ok (.iaload, 1) := gd_LA_law_196.2.2.2.2.2.1
theorem d_LA_law_202 : decode code 202 = .ok (.aload_n 0, 1) := gd_LA_law_196.2.2.2.2.2.2.1
theorem d_LA_law_203 : decode code 203 = .ok (.iload_n 3, 1) := gd_LA_law_196.2.2.2.2.2.2.2.1
theorem d_LA_law_204 : decode code 204 = .ok (.iconst 2, 1) := gd_LA_law_196.2.2.2.2.2.2.2.2.1
theorem d_LA_law_205 : decode code 205 = .ok (.iadd, 1) := gd_LA_law_196.2.2.2.2.2.2.2.2.2
theorem gd_LA_law_206 : (decode code 206 = .ok (.iaload, 1)) ∧ (decode code 207 = .ok (.aload_n 0, 1)) ∧ (decode code 208 = .ok (.iload_n 3, 1)) ∧ (decode code 209 = .ok (.iconst 3, 1)) ∧ (decode code 210 = .ok (.iadd, 1)) ∧ (decode code 211 = .ok (.iaload, 1)) ∧ (decode code 212 = .ok (.aload_n 0, 1)) ∧ (decode code 213 = .ok (.iload_n 3, 1)) ∧ (decode code 214 = .ok (.iconst 4, 1)) ∧ (decode code 215 = .ok (.iadd, 1)) := by decide +kernel
theorem d_LA_law_206 : decode code 206 = .ok (.iaload, 1) := gd_LA_law_206.1
theorem d_LA_law_207 : decode code 207 = .ok (.aload_n 0, 1) := gd_LA_law_206.2.1
theorem d_LA_law_208 : decode code 208 = .ok (.iload_n 3, 1) := gd_LA_law_206.2.2.1
theorem d_LA_law_209 : decode code 209 = .ok (.iconst 3, 1) := gd_LA_law_206.2.2.2.1
theorem d_LA_law_210 : decode code 210 = .ok (.iadd, 1) := gd_LA_law_206.2.2.2.2.1
theorem d_LA_law_211 : decode code 211 = .ok (.iaload, 1) := gd_LA_law_206.2.2.2.2.2.1
theorem d_LA_law_212 : decode code 212 = .ok (.aload_n 0, 1) := gd_LA_law_206.2.2.2.2.2.2.1
theorem d_LA_law_213 : decode code 213 = .ok (.iload_n 3, 1) := gd_LA_law_206.2.2.2.2.2.2.2.1
theorem d_LA_law_214 : decode code 214 = .ok (.iconst 4, 1) := gd_LA_law_206.2.2.2.2.2.2.2.2.1
theorem d_LA_law_215 : decode code 215 = .ok (.iadd, 1) := gd_LA_law_206.2.2.2.2.2.2.2.2.2
theorem gd_LA_law_216 : (decode code 216 = .ok (.iaload, 1)) ∧ (decode code 217 = .ok (.invokevirtual 22, 3)) ∧ (decode code 220 = .ok (.pop, 1)) ∧ (decode code 221 = .ok (.goto 688, 3)) ∧ (decode code 224 = .ok (.aload_n 1, 1)) ∧ (decode code 225 = .ok (.aload_n 0, 1)) ∧ (decode code 226 = .ok (.iload_n 3, 1)) ∧ (decode code 227 = .ok (.iconst 1, 1)) ∧ (decode code 228 = .ok (.iadd, 1)) ∧ (decode code 229 = .ok (.iaload, 1)) := by decide +kernel
theorem d_LA_law_216 : decode code 216 = .ok (.iaload, 1) := gd_LA_law_216.1
theorem d_LA_law_217 : decode code 217 = .ok (.invokevirtual 22, 3) := gd_LA_law_216.2.1
theorem d_LA_law_220 : decode code 220 = .ok (.pop, 1) := gd_LA_law_216.2.2.1
theorem d_LA_law_221 : decode code 221 = .ok (.goto 688, 3) := gd_LA_law_216.2.2.2.1
theorem d_LA_law_224 : decode code 224 = .ok (.aload_n 1, 1) := gd_LA_law_216.2.2.2.2.1
theorem d_LA_law_225 : decode code 225 = .ok (.aload_n 0, 1) := gd_LA_law_216.2.2.2.2.2.1
theorem d_LA_law_226 : decode code 226 = .ok (.iload_n 3, 1) := gd_LA_law_216.2.2.2.2.2.2.1
theorem d_LA_law_227 : decode code 227 = .ok (.iconst 1, 1) := gd_LA_law_216.2.2.2.2.2.2.2.1
theorem d_LA_law_228 : decode code 228 = .ok (.iadd, 1) := gd_LA_law_216.2.2.2.2.2.2.2.2.1
theorem d_LA_law_229 : decode code 229 = .ok (.iaload, 1) := gd_LA_law_216.2.2.2.2.2.2.2.2.2
theorem gd_LA_law_230 : (decode code 230 = .ok (.aload_n 0, 1)) ∧ (decode code 231 = .ok (.iload_n 3, 1)) ∧ (decode code 232 = .ok (.iconst 2, 1)) ∧ (decode code 233 = .ok (.iadd, 1)) ∧ (decode code 234 = .ok (.iaload, 1)) ∧ (decode code 235 = .ok (.aload_n 0, 1)) ∧ (decode code 236 = .ok (.iload_n 3, 1)) ∧ (decode code 237 = .ok (.iconst 3, 1)) ∧ (decode code 238 = .ok (.iadd, 1)) ∧ (decode code 239 = .ok (.iaload, 1)) := by decide +kernel
theorem d_LA_law_230 : decode code 230 = .ok (.aload_n 0, 1) := gd_LA_law_230.1
theorem d_LA_law_231 : decode code 231 = .ok (.iload_n 3, 1) := gd_LA_law_230.2.1
theorem d_LA_law_232 : decode code 232 = .ok (.iconst 2, 1) := gd_LA_law_230.2.2.1
theorem d_LA_law_233 : decode code 233 = .ok (.iadd, 1) := gd_LA_law_230.2.2.2.1
theorem d_LA_law_234 : decode code 234 = .ok (.iaload, 1) := gd_LA_law_230.2.2.2.2.1
theorem d_LA_law_235 : decode code 235 = .ok (.aload_n 0, 1) := gd_LA_law_230.2.2.2.2.2.1
theorem d_LA_law_236 : decode code 236 = .ok (.iload_n 3, 1) := gd_LA_law_230.2.2.2.2.2.2.1
theorem d_LA_law_237 : decode code 237 = .ok (.iconst 3, 1) := gd_LA_law_230.2.2.2.2.2.2.2.1
theorem d_LA_law_238 : decode code 238 = .ok (.iadd, 1) := gd_LA_law_230.2.2.2.2.2.2.2.2.1
theorem d_LA_law_239 : decode code 239 = .ok (.iaload, 1) := gd_LA_law_230.2.2.2.2.2.2.2.2.2
theorem gd_LA_law_240 : (decode code 240 = .ok (.invokevirtual 23, 3)) ∧ (decode code 243 = .ok (.pop, 1)) ∧ (decode code 244 = .ok (.aload_n 2, 1)) ∧ (decode code 245 = .ok (.aload_n 0, 1)) ∧ (decode code 246 = .ok (.iload_n 3, 1)) ∧ (decode code 247 = .ok (.iconst 1, 1)) ∧ (decode code 248 = .ok (.iadd, 1)) ∧ (decode code 249 = .ok (.iaload, 1)) ∧ (decode code 250 = .ok (.aload_n 0, 1)) ∧ (decode code 251 = .ok (.iload_n 3, 1)) := by decide +kernel
theorem d_LA_law_240 : decode code 240 = .ok (.invokevirtual 23, 3) := gd_LA_law_240.1
theorem d_LA_law_243 : decode code 243 = .ok (.pop, 1) := gd_LA_law_240.2.1
theorem d_LA_law_244 : decode code 244 = .ok (.aload_n 2, 1) := gd_LA_law_240.2.2.1
theorem d_LA_law_245 : decode code 245 = .ok (.aload_n 0, 1) := gd_LA_law_240.2.2.2.1
theorem d_LA_law_246 : decode code 246 = .ok (.iload_n 3, 1) := gd_LA_law_240.2.2.2.2.1
theorem d_LA_law_247 : decode code 247 = .ok (.iconst 1, 1) := gd_LA_law_240.2.2.2.2.2.1
theorem d_LA_law_248 : decode code 248 = .ok (.iadd, 1) := gd_LA_law_240.2.2.2.2.2.2.1
theorem d_LA_law_249 : decode code 249 = .ok (.iaload, 1) := gd_LA_law_240.2.2.2.2.2.2.2.1
theorem d_LA_law_250 : decode code 250 = .ok (.aload_n 0, 1) := gd_LA_law_240.2.2.2.2.2.2.2.2.1
theorem d_LA_law_251 : decode code 251 = .ok (.iload_n 3, 1) := gd_LA_law_240.2.2.2.2.2.2.2.2.2
theorem gd_LA_law_252 : (decode code 252 = .ok (.iconst 2, 1)) ∧ (decode code 253 = .ok (.iadd, 1)) ∧ (decode code 254 = .ok (.iaload, 1)) ∧ (decode code 255 = .ok (.aload_n 0, 1)) ∧ (decode code 256 = .ok (.iload_n 3, 1)) ∧ (decode code 257 = .ok (.iconst 3, 1)) ∧ (decode code 258 = .ok (.iadd, 1)) ∧ (decode code 259 = .ok (.iaload, 1)) ∧ (decode code 260 = .ok (.invokevirtual 27, 3)) ∧ (decode code 263 = .ok (.pop, 1)) := by decide +kernel
theorem d_LA_law_252 : decode code 252 = .ok (.iconst 2, 1) := gd_LA_law_252.1
theorem d_LA_law_253 : decode code 253 = .ok (.iadd, 1) := gd_LA_law_252.2.1
theorem d_LA_law_254 : decode code 254 = .ok (.iaload, 1) := gd_LA_law_252.2.2.1
theorem d_LA_law_255 : decode code 255 = .ok (.aload_n 0, 1) := gd_LA_law_252.2.2.2.1
theorem d_LA_law_256 : decode code 256 = .ok (.iload_n 3, 1) := gd_LA_law_252.2.2.2.2.1
theorem d_LA_law_257 : decode code 257 = .ok (.iconst 3, 1) := gd_LA_law_252.2.2.2.2.2.1
theorem d_LA_law_258 : decode code 258 = .ok (.iadd, 1) := gd_LA_law_252.2.2.2.2.2.2.1
theorem d_LA_law_259 : decode code 259 = .ok (.iaload, 1) := gd_LA_law_252.2.2.2.2.2.2.2.1
theorem d_LA_law_260 : decode code 260 = .ok (.invokevirtual 27, 3) := gd_LA_law_252.2.2.2.2.2.2.2.2.1
theorem d_LA_law_263 : decode code 263 = .ok (.pop, 1) := gd_LA_law_252.2.2.2.2.2.2.2.2.2
theorem gd_LA_law_264 : (decode code 264 = .ok (.goto 645, 3)) ∧ (decode code 267 = .ok (.aload_n 1, 1)) ∧ (decode code 268 = .ok (.aload_n 0, 1)) ∧ (decode code 269 = .ok (.iload_n 3, 1)) ∧ (decode code 270 = .ok (.iconst 1, 1)) ∧ (decode code 271 = .ok (.iadd, 1)) ∧ (decode code 272 = .ok (.iaload, 1)) ∧ (decode code 273 = .ok (.invokevirtual 28, 3)) ∧ (decode code 276 = .ok (.pop, 1)) ∧ (decode code 277 = .ok (.aload_n 2, 1)) := by decide +kernel
theorem d_LA_law_264 : decode code 264 = .ok (.goto 645, 3) := gd_LA_law_264.1
theorem d_LA_law_267 : decode code 267 = .ok (.aload_n 1, 1) := gd_LA_law_264.2.1
theorem d_LA_law_268 : decode code 268 = .ok (.aload_n 0, 1) := gd_LA_law_264.2.2.1
theorem d_LA_law_269 : decode code 269 = .ok (.iload_n 3, 1) := gd_LA_law_264.2.2.2.1
theorem d_LA_law_270 : decode code 270 = .ok (.iconst 1, 1) := gd_LA_law_264.2.2.2.2.1
theorem d_LA_law_271 : decode code 271 = .ok (.iadd, 1) := gd_LA_law_264.2.2.2.2.2.1
theorem d_LA_law_272 : decode code 272 = .ok (.iaload, 1) := gd_LA_law_264.2.2.2.2.2.2.1
theorem d_LA_law_273 : decode code 273 = .ok (.invokevirtual 28, 3) := gd_LA_law_264.2.2.2.2.2.2.2.1
theorem d_LA_law_276 : decode code 276 = .ok (.pop, 1) := gd_LA_law_264.2.2.2.2.2.2.2.2.1
theorem d_LA_law_277 : decode code 277 = .ok (.aload_n 2, 1) := gd_LA_law_264.2.2.2.2.2.2.2.2.2
theorem gd_LA_law_278 : (decode code 278 = .ok (.aload_n 0, 1)) ∧ (decode code 279 = .ok (.iload_n 3, 1)) ∧ (decode code 280 = .ok (.iconst 1, 1)) ∧ (decode code 281 = .ok (.iadd, 1)) ∧ (decode code 282 = .ok (.iaload, 1)) ∧ (decode code 283 = .ok (.invokevirtual 31, 3)) ∧ (decode code 286 = .ok (.pop, 1)) ∧ (decode code 287 = .ok (.goto 622, 3)) ∧ (decode code 290 = .ok (.aload_n 1, 1)) ∧ (decode code 291 = .ok (.aload_n 0, 1)) := by decide +kernel
theorem d_LA_law_278 : decode code 278 = .ok (.aload_n 0, 1) := gd_LA_law_278.1
theorem d_LA_law_279 : decode code 279 = .ok (.iload_n 3, 1) := gd_LA_law_278.2.1
theorem d_LA_law_280 : decode code 280 = .ok (.iconst 1, 1) := gd_LA_law_278.2.2.1
theorem d_LA_law_281 : decode code 281 = .ok (.iadd, 1) := gd_LA_law_278.2.2.2.1
theorem d_LA_law_282 : decode code 282 = .ok (.iaload, 1) := gd_LA_law_278.2.2.2.2.1
theorem d_LA_law_283 : decode code 283 = .ok (.invokevirtual 31, 3) := gd_LA_law_278.2.2.2.2.2.1
theorem d_LA_law_286 : decode code 286 = .ok (.pop, 1) := gd_LA_law_278.2.2.2.2.2.2.1
theorem d_LA_law_287 : decode code 287 = .ok (.goto 622, 3) := gd_LA_law_278.2.2.2.2.2.2.2.1
theorem d_LA_law_290 : decode code 290 = .ok (.aload_n 1, 1) := gd_LA_law_278.2.2.2.2.2.2.2.2.1
theorem d_LA_law_291 : decode code 291 = .ok (.aload_n 0, 1) := gd_LA_law_278.2.2.2.2.2.2.2.2.2
theorem gd_LA_law_292 : (decode code 292 = .ok (.iload_n 3, 1)) ∧ (decode code 293 = .ok (.iconst 1, 1)) ∧ (decode code 294 = .ok (.iadd, 1)) ∧ (decode code 295 = .ok (.iaload, 1)) ∧ (decode code 296 = .ok (.invokevirtual 32, 3)) ∧ (decode code 299 = .ok (.aload_n 2, 1)) ∧ (decode code 300 = .ok (.aload_n 0, 1)) ∧ (decode code 301 = .ok (.iload_n 3, 1)) ∧ (decode code 302 = .ok (.iconst 1, 1)) ∧ (decode code 303 = .ok (.iadd, 1)) := by decide +kernel
theorem d_LA_law_292 : decode code 292 = .ok (.iload_n 3, 1) := gd_LA_law_292.1
theorem d_LA_law_293 : decode code 293 = .ok (.iconst 1, 1) := gd_LA_law_292.2.1
theorem d_LA_law_294 : decode code 294 = .ok (.iadd, 1) := gd_LA_law_292.2.2.1
theorem d_LA_law_295 : decode code 295 = .ok (.iaload, 1) := gd_LA_law_292.2.2.2.1
theorem d_LA_law_296 : decode code 296 = .ok (.invokevirtual 32, 3) := gd_LA_law_292.2.2.2.2.1
theorem d_LA_law_299 : decode code 299 = .ok (.aload_n 2, 1) := gd_LA_law_292.2.2.2.2.2.1
theorem d_LA_law_300 : decode code 300 = .ok (.aload_n 0, 1) := gd_LA_law_292.2.2.2.2.2.2.1
theorem d_LA_law_301 : decode code 301 = .ok (.iload_n 3, 1) := gd_LA_law_292.2.2.2.2.2.2.2.1
theorem d_LA_law_302 : decode code 302 = .ok (.iconst 1, 1) := gd_LA_law_292.2.2.2.2.2.2.2.2.1
theorem d_LA_law_303 : decode code 303 = .ok (.iadd, 1) := gd_LA_law_292.2.2.2.2.2.2.2.2.2
theorem gd_LA_law_304 : (decode code 304 = .ok (.iaload, 1)) ∧ (decode code 305 = .ok (.invokevirtual 35, 3)) ∧ (decode code 308 = .ok (.if_icmp .eq 601, 3)) ∧ (decode code 313 = .ok (.aload_n 1, 1)) ∧ (decode code 314 = .ok (.aload_n 0, 1)) ∧ (decode code 315 = .ok (.iload_n 3, 1)) ∧ (decode code 316 = .ok (.iconst 1, 1)) ∧ (decode code 317 = .ok (.iadd, 1)) ∧ (decode code 318 = .ok (.iaload, 1)) ∧ (decode code 319 = .ok (.aload_n 0, 1)) := by decide +kernel
theorem d_LA_law_304 : decode code 304 = .ok (.iaload, 1) := gd_LA_law_304.1
theorem d_LA_law_305 : decode code 305 = .ok (.invokevirtual 35, 3) := gd_LA_law_304.2.1
theorem d_LA_law_308 : decode code 308 = .ok (.if_icmp .eq 601, 3) := gd_LA_law_304.2.2.1
theorem d_LA_law_313 : decode code 313 = .ok (.aload_n 1, 1) := gd_LA_law_304.2.2.2.1
theorem d_LA_law_314 : decode code 314 = .ok (.aload_n 0, 1) := gd_LA_law_304.2.2.2.2.1
theorem d_LA_law_315 : decode code 315 = .ok (.iload_n 3, 1) := gd_LA_law_304.2.2.2.2.2.1
theorem d_LA_law_316 : decode code 316 = .ok (.iconst 1, 1) := gd_LA_law_304.2.2.2.2.2.2.1
theorem d_LA_law_317 : decode code 317 = .ok (.iadd, 1) := gd_LA_law_304.2.2.2.2.2.2.2.1
theorem d_LA_law_318 : decode code 318 = .ok (.iaload, 1) := gd_LA_law_304.2.2.2.2.2.2.2.2.1
theorem d_LA_law_319 : decode code 319 = .ok (.aload_n 0, 1) := gd_LA_law_304.2.2.2.2.2.2.2.2.2
theorem gd_LA_law_320 : (decode code 320 = .ok (.iload_n 3, 1)) ∧ (decode code 321 = .ok (.iconst 2, 1)) ∧ (decode code 322 = .ok (.iadd, 1)) ∧ (decode code 323 = .ok (.iaload, 1)) ∧ (decode code 324 = .ok (.ifCond .eq 7, 3)) ∧ (decode code 331 = .ok (.iconst 0, 1)) ∧ (decode code 332 = .ok (.invokevirtual 36, 3)) ∧ (decode code 335 = .ok (.pop, 1)) ∧ (decode code 336 = .ok (.aload_n 2, 1)) ∧ (decode code 337 = .ok (.aload_n 0, 1)) := by decide +kernel
theorem d_LA_law_320 : decode code 320 = .ok (.iload_n 3, 1) := gd_LA_law_320.1
theorem d_LA_law_321 : decode code 321 = .ok (.iconst 2, 1) := gd_LA_law_320.2.1
theorem d_LA_law_322 : decode code 322 = .ok (.iadd, 1) := gd_LA_law_320.2.2.1
theorem d_LA_law_323 : decode code 323 = .ok (.iaload, 1) := gd_LA_law_320.2.2.2.1
theorem d_LA_law_324 : decode code 324 = .ok (.ifCond .eq 7, 3) := gd_LA_law_320.2.2.2.2.1
theorem d_LA_law_331 : decode code 331 = .ok (.iconst 0, 1) := gd_LA_law_320.2.2.2.2.2.1
theorem d_LA_law_332 : decode code 332 = .ok (.invokevirtual 36, 3) := gd_LA_law_320.2.2.2.2.2.2.1
theorem d_LA_law_335 : decode code 335 = .ok (.pop, 1) := gd_LA_law_320.2.2.2.2.2.2.2.1
theorem d_LA_law_336 : decode code 336 = .ok (.aload_n 2, 1) := gd_LA_law_320.2.2.2.2.2.2.2.2.1
theorem d_LA_law_337 : decode code 337 = .ok (.aload_n 0, 1) := gd_LA_law_320.2.2.2.2.2.2.2.2.2
