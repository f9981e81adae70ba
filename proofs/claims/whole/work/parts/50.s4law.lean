/-! the law, as a loop over the operations (by wip/whole/mk_law2.py) -/
/-- choice -/
def op_0 (Rel : sm_M → Prop) : Prop := ∀ (u : sm_M) (a1 a2 : Int32), Rel u → ∃ (r : Int32) (u1 u2 : sm_M), sm_call 200 141 (.ref 0 :: [.int a1, .int a2]) u = some (some (.int r), u1) ∧ sm_call 200 214 (.ref 275 :: [.int a1, .int a2]) u1 = some (some (.int r), u2) ∧ u1.1 = SH ∧ Rel u2
/-- piece -/
def op_1 (Rel : sm_M → Prop) : Prop := ∀ (u : sm_M) (a1 a2 a3 a4 : Int32), Rel u → ∃ (r : Int32) (u1 u2 : sm_M), sm_call 200 142 (.ref 0 :: [.int a1, .int a2, .int a3, .int a4]) u = some (some (.int r), u1) ∧ sm_call 200 215 (.ref 275 :: [.int a1, .int a2, .int a3, .int a4]) u1 = some (some (.int r), u2) ∧ u1.1 = SH ∧ Rel u2
/-- room -/
def op_2 (Rel : sm_M → Prop) : Prop := ∀ (u : sm_M) (a1 a2 : Int32), Rel u → ∃ (r : Int32) (u1 u2 : sm_M), sm_call 200 143 (.ref 0 :: [.int a1, .int a2]) u = some (some (.int r), u1) ∧ sm_call 200 216 (.ref 275 :: [.int a1, .int a2]) u1 = some (some (.int r), u2) ∧ u1.1 = SH ∧ Rel u2
/-- person -/
def op_3 (Rel : sm_M → Prop) : Prop := ∀ (u : sm_M) (a1 a2 a3 : Int32), Rel u → ∃ (r : Int32) (u1 u2 : sm_M), sm_call 200 144 (.ref 0 :: [.int a1, .int a2, .int a3]) u = some (some (.int r), u1) ∧ sm_call 200 217 (.ref 275 :: [.int a1, .int a2, .int a3]) u1 = some (some (.int r), u2) ∧ u1.1 = SH ∧ Rel u2
/-- feed -/
def op_4 (Rel : sm_M → Prop) : Prop := ∀ (u : sm_M) (a1 a2 a3 a4 a5 : Int32), Rel u → ∃ (r : Int32) (u1 u2 : sm_M), sm_call 200 145 (.ref 0 :: [.int a1, .int a2, .int a3, .int a4, .int a5]) u = some (some (.int r), u1) ∧ sm_call 200 219 (.ref 275 :: [.int a1, .int a2, .int a3, .int a4, .int a5]) u1 = some (some (.int r), u2) ∧ u1.1 = SH ∧ Rel u2
/-- end -/
def op_5 (Rel : sm_M → Prop) : Prop := ∀ (u : sm_M) (a1 : Int32), Rel u → ∃ (r : Int32) (u1 u2 : sm_M), sm_call 200 146 (.ref 0 :: [.int a1]) u = some (some (.int r), u1) ∧ sm_call 200 220 (.ref 275 :: [.int a1]) u1 = some (some (.int r), u2) ∧ u1.1 = SH ∧ Rel u2
/-- text -/
def op_6 (Rel : sm_M → Prop) : Prop := ∀ (u : sm_M), Rel u → ∃ (r : Int32) (u1 u2 : sm_M), sm_call 200 147 (.ref 0 :: []) u = some (some (.int r), u1) ∧ sm_call 200 255 (.ref 275 :: []) u1 = some (some (.int r), u2) ∧ u1.1 = SH ∧ Rel u2
/-- fault -/
def op_7 (Rel : sm_M → Prop) : Prop := ∀ (u : sm_M) (a1 : Int32), Rel u → ∃ (r : Int32) (u1 u2 : sm_M), sm_call 200 148 (.ref 0 :: [.int a1]) u = some (some (.int r), u1) ∧ sm_call 200 256 (.ref 275 :: [.int a1]) u1 = some (some (.int r), u2) ∧ u1.1 = SH ∧ Rel u2
/-- by -/
def op_8 (Rel : sm_M → Prop) : Prop := ∀ (u : sm_M) (a1 : Int32), Rel u → ∃ (r : Int32) (u1 u2 : sm_M), sm_call 200 149 (.ref 0 :: [.int a1]) u = some (some (.int r), u1) ∧ sm_call 200 257 (.ref 275 :: [.int a1]) u1 = some (some (.int r), u2) ∧ u1.1 = SH ∧ Rel u2
/-- turn -/
def op_9 (Rel : sm_M → Prop) : Prop := ∀ (u : sm_M) (a1 : Int32), Rel u → ∃ (r : Int32) (u1 u2 : sm_M), sm_call 200 150 (.ref 0 :: [.int a1]) u = some (some (.int r), u1) ∧ sm_call 200 271 (.ref 275 :: [.int a1]) u1 = some (some (.int r), u2) ∧ u1.1 = SH ∧ Rel u2
/-- set -/
def op_10 (Rel : sm_M → Prop) : Prop := ∀ (u : sm_M) (a1 a2 : Int32), Rel u → ∃ (r : Int32) (u1 u2 : sm_M), sm_call 200 151 (.ref 0 :: [.int a1, .int a2]) u = some (some (.int r), u1) ∧ sm_call 200 272 (.ref 275 :: [.int a1, .int a2]) u1 = some (some (.int r), u2) ∧ u1.1 = SH ∧ Rel u2
/-- put -/
def op_11 (Rel : sm_M → Prop) : Prop := ∀ (u : sm_M) (a1 a2 : Int32), Rel u → ∃ (r : Int32) (u1 u2 : sm_M), sm_call 200 152 (.ref 0 :: [.int a1, .int a2]) u = some (some (.int r), u1) ∧ sm_call 200 275 (.ref 275 :: [.int a1, .int a2]) u1 = some (some (.int r), u2) ∧ u1.1 = SH ∧ Rel u2
/-- take -/
def op_12 (Rel : sm_M → Prop) : Prop := ∀ (u : sm_M) (a1 : Int32), Rel u → ∃ (r : Int32) (u1 u2 : sm_M), sm_call 200 153 (.ref 0 :: [.int a1]) u = some (some (.int r), u1) ∧ sm_call 200 276 (.ref 275 :: [.int a1]) u1 = some (some (.int r), u2) ∧ u1.1 = SH ∧ Rel u2
/-- played -/
def op_13 (Rel : sm_M → Prop) : Prop := ∀ (u : sm_M) (a1 : Int32), Rel u → ∃ (r : Int32) (u1 u2 : sm_M), sm_call 200 154 (.ref 0 :: [.int a1]) u = some (some (.int r), u1) ∧ sm_call 200 278 (.ref 275 :: [.int a1]) u1 = some (some (.int r), u2) ∧ u1.1 = SH ∧ Rel u2
/-- years -/
def op_14 (Rel : sm_M → Prop) : Prop := ∀ (u : sm_M) (a1 a2 : Int32), Rel u → ∃ (r : Int32) (u1 u2 : sm_M), sm_call 200 155 (.ref 0 :: [.int a1, .int a2]) u = some (some (.int r), u1) ∧ sm_call 200 280 (.ref 275 :: [.int a1, .int a2]) u1 = some (some (.int r), u2) ∧ u1.1 = SH ∧ Rel u2
/-- undo -/
def op_15 (Rel : sm_M → Prop) : Prop := ∀ (u : sm_M), Rel u → ∃ (r : Int32) (u1 u2 : sm_M), sm_call 200 156 (.ref 0 :: []) u = some (some (.int r), u1) ∧ sm_call 200 269 (.ref 275 :: []) u1 = some (some (.int r), u2) ∧ u1.1 = SH ∧ Rel u2
/-- ofChoice -/
def op_16 (Rel : sm_M → Prop) : Prop := ∀ (u : sm_M) (a1 a2 : Int32), Rel u → ∃ (r : Int32) (u1 u2 : sm_M), sm_call 200 157 (.ref 0 :: [.int a1, .int a2]) u = some (some (.int r), u1) ∧ sm_call 200 281 (.ref 275 :: [.int a1, .int a2]) u1 = some (some (.int r), u2) ∧ u1.1 = SH ∧ Rel u2
/-- ofPiece -/
def op_17 (Rel : sm_M → Prop) : Prop := ∀ (u : sm_M) (a1 a2 : Int32), Rel u → ∃ (r : Int32) (u1 u2 : sm_M), sm_call 200 158 (.ref 0 :: [.int a1, .int a2]) u = some (some (.int r), u1) ∧ sm_call 200 282 (.ref 275 :: [.int a1, .int a2]) u1 = some (some (.int r), u2) ∧ u1.1 = SH ∧ Rel u2
/-- ofRoom -/
def op_18 (Rel : sm_M → Prop) : Prop := ∀ (u : sm_M) (a1 a2 : Int32), Rel u → ∃ (r : Int32) (u1 u2 : sm_M), sm_call 200 159 (.ref 0 :: [.int a1, .int a2]) u = some (some (.int r), u1) ∧ sm_call 200 283 (.ref 275 :: [.int a1, .int a2]) u1 = some (some (.int r), u2) ∧ u1.1 = SH ∧ Rel u2
/-- was -/
def op_19 (Rel : sm_M → Prop) : Prop := ∀ (u : sm_M), Rel u → ∃ (r : Int32) (u1 u2 : sm_M), sm_call 200 160 (.ref 0 :: []) u = some (some (.int r), u1) ∧ sm_call 200 270 (.ref 275 :: []) u1 = some (some (.int r), u2) ∧ u1.1 = SH ∧ Rel u2
/-- agrees -/
def op_20 (Rel : sm_M → Prop) : Prop := ∀ (u : sm_M) (a1 a2 : Int32), Rel u → ∃ (r : Int32) (u1 u2 : sm_M), sm_call 200 161 (.ref 0 :: [.int a1, .int a2]) u = some (some (.int r), u1) ∧ sm_call 200 284 (.ref 275 :: [.int a1, .int a2]) u1 = some (some (.int r), u2) ∧ u1.1 = SH ∧ Rel u2
/-- follows -/
def op_21 (Rel : sm_M → Prop) : Prop := ∀ (u : sm_M) (a1 : Int32), Rel u → ∃ (r : Int32) (u1 u2 : sm_M), sm_call 200 162 (.ref 0 :: [.int a1]) u = some (some (.int r), u1) ∧ sm_call 200 285 (.ref 275 :: [.int a1]) u1 = some (some (.int r), u2) ∧ u1.1 = SH ∧ Rel u2
/-- mayBe -/
def op_22 (Rel : sm_M → Prop) : Prop := ∀ (u : sm_M) (a1 : Int32), Rel u → ∃ (r : Int32) (u1 u2 : sm_M), sm_call 200 163 (.ref 0 :: [.int a1]) u = some (some (.int r), u1) ∧ sm_call 200 286 (.ref 275 :: [.int a1]) u1 = some (some (.int r), u2) ∧ u1.1 = SH ∧ Rel u2
/-- cannot -/
def op_23 (Rel : sm_M → Prop) : Prop := ∀ (u : sm_M), Rel u → ∃ (r : Int32) (u1 u2 : sm_M), sm_call 200 164 (.ref 0 :: []) u = some (some (.int r), u1) ∧ sm_call 200 287 (.ref 275 :: []) u1 = some (some (.int r), u2) ∧ u1.1 = SH ∧ Rel u2
/-- most -/
def op_24 (Rel : sm_M → Prop) : Prop := ∀ (u : sm_M) (a1 a2 : Int32), Rel u → (a2 = 0 ∨ a2 = 1) → ∃ (r : Int32) (u1 u2 : sm_M), sm_call 200 165 (.ref 0 :: [.int a1, .int a2]) u = some (some (.int r), u1) ∧ sm_call 200 289 (.ref 275 :: [.int a1, .int a2]) u1 = some (some (.int r), u2) ∧ u1.1 = SH ∧ Rel u2
/-- clash -/
def op_25 (Rel : sm_M → Prop) : Prop := ∀ (u : sm_M) (a1 : Int32), Rel u → ∃ (r : Int32) (u1 u2 : sm_M), sm_call 200 166 (.ref 0 :: [.int a1]) u = some (some (.int r), u1) ∧ sm_call 200 291 (.ref 275 :: [.int a1]) u1 = some (some (.int r), u2) ∧ u1.1 = SH ∧ Rel u2
/-- fact -/
def op_26 (Rel : sm_M → Prop) : Prop := ∀ (u : sm_M) (a1 a2 a3 : Int32), Rel u → (a2 = 0 ∨ a2 = 1) → (a3 = 0 ∨ a3 = 1) → ∃ (r : Int32) (u1 u2 : sm_M), sm_call 200 167 (.ref 0 :: [.int a1, .int a2, .int a3]) u = some (some (.int r), u1) ∧ sm_call 200 292 (.ref 275 :: [.int a1, .int a2, .int a3]) u1 = some (some (.int r), u2) ∧ u1.1 = SH ∧ Rel u2
/-- left -/
def op_27 (Rel : sm_M → Prop) : Prop := ∀ (u : sm_M) (a1 : Int32), Rel u → ∃ (r : Int32) (u1 u2 : sm_M), sm_call 200 168 (.ref 0 :: [.int a1]) u = some (some (.int r), u1) ∧ sm_call 200 294 (.ref 275 :: [.int a1]) u1 = some (some (.int r), u2) ∧ u1.1 = SH ∧ Rel u2
/-- sure -/
def op_28 (Rel : sm_M → Prop) : Prop := ∀ (u : sm_M) (a1 : Int32), Rel u → (a1 = 0 ∨ a1 = 1) → ∃ (r : Int32) (u1 u2 : sm_M), sm_call 200 169 (.ref 0 :: [.int a1]) u = some (some (.int r), u1) ∧ sm_call 200 295 (.ref 275 :: [.int a1]) u1 = some (some (.int r), u2) ∧ u1.1 = SH ∧ Rel u2
/-- ask -/
def op_29 (Rel : sm_M → Prop) : Prop := ∀ (u : sm_M) (a1 : Int32), Rel u → ∃ (r : Int32) (u1 u2 : sm_M), sm_call 200 170 (.ref 0 :: [.int a1]) u = some (some (.int r), u1) ∧ sm_call 200 297 (.ref 275 :: [.int a1]) u1 = some (some (.int r), u2) ∧ u1.1 = SH ∧ Rel u2
/-- halves -/
def op_30 (Rel : sm_M → Prop) : Prop := ∀ (u : sm_M), Rel u → ∃ (r : Int32) (u1 u2 : sm_M), sm_call 200 171 (.ref 0 :: []) u = some (some (.int r), u1) ∧ sm_call 200 298 (.ref 275 :: []) u1 = some (some (.int r), u2) ∧ u1.1 = SH ∧ Rel u2
/-- leanOn -/
def op_31 (Rel : sm_M → Prop) : Prop := ∀ (u : sm_M) (a1 : Int32), Rel u → ∃ (r : Int32) (u1 u2 : sm_M), sm_call 200 172 (.ref 0 :: [.int a1]) u = some (some (.int r), u1) ∧ sm_call 200 305 (.ref 275 :: [.int a1]) u1 = some (some (.int r), u2) ∧ u1.1 = SH ∧ Rel u2
/-- agreeIn -/
def op_32 (Rel : sm_M → Prop) : Prop := ∀ (u : sm_M) (a1 : Int32), Rel u → ∃ (r : Int32) (u1 u2 : sm_M), sm_call 200 173 (.ref 0 :: [.int a1]) u = some (some (.int r), u1) ∧ sm_call 200 306 (.ref 275 :: [.int a1]) u1 = some (some (.int r), u2) ∧ u1.1 = SH ∧ Rel u2
/-- elders -/
def op_33 (Rel : sm_M → Prop) : Prop := ∀ (u : sm_M) (a1 : Int32), Rel u → ∃ (r : Int32) (u1 u2 : sm_M), sm_call 200 174 (.ref 0 :: [.int a1]) u = some (some (.int r), u1) ∧ sm_call 200 311 (.ref 275 :: [.int a1]) u1 = some (some (.int r), u2) ∧ u1.1 = SH ∧ Rel u2
/-- nextDoor -/
def op_34 (Rel : sm_M → Prop) : Prop := ∀ (u : sm_M), Rel u → ∃ (r : Int32) (u1 u2 : sm_M), sm_call 200 175 (.ref 0 :: []) u = some (some (.int r), u1) ∧ sm_call 200 314 (.ref 275 :: []) u1 = some (some (.int r), u2) ∧ u1.1 = SH ∧ Rel u2
/-- empty -/
def op_35 (Rel : sm_M → Prop) : Prop := ∀ (u : sm_M), Rel u → ∃ (r : Int32) (u1 u2 : sm_M), sm_call 200 176 (.ref 0 :: []) u = some (some (.int r), u1) ∧ sm_call 200 315 (.ref 275 :: []) u1 = some (some (.int r), u2) ∧ u1.1 = SH ∧ Rel u2
/-- least -/
def op_36 (Rel : sm_M → Prop) : Prop := ∀ (u : sm_M) (a1 a2 : Int32), Rel u → (a2 = 0 ∨ a2 = 1) → ∃ (r : Int32) (u1 u2 : sm_M), sm_call 200 177 (.ref 0 :: [.int a1, .int a2]) u = some (some (.int r), u1) ∧ sm_call 200 299 (.ref 275 :: [.int a1, .int a2]) u1 = some (some (.int r), u2) ∧ u1.1 = SH ∧ Rel u2
/-- noMatter -/
def op_37 (Rel : sm_M → Prop) : Prop := ∀ (u : sm_M) (a1 : Int32), Rel u → ∃ (r : Int32) (u1 u2 : sm_M), sm_call 200 178 (.ref 0 :: [.int a1]) u = some (some (.int r), u1) ∧ sm_call 200 301 (.ref 275 :: [.int a1]) u1 = some (some (.int r), u2) ∧ u1.1 = SH ∧ Rel u2
/-- turnsIt -/
def op_38 (Rel : sm_M → Prop) : Prop := ∀ (u : sm_M) (a1 a2 a3 : Int32), Rel u → (a3 = 0 ∨ a3 = 1) → ∃ (r : Int32) (u1 u2 : sm_M), sm_call 200 179 (.ref 0 :: [.int a1, .int a2, .int a3]) u = some (some (.int r), u1) ∧ sm_call 200 304 (.ref 275 :: [.int a1, .int a2, .int a3]) u1 = some (some (.int r), u2) ∧ u1.1 = SH ∧ Rel u2
/-- there -/
def op_39 (Rel : sm_M → Prop) : Prop := ∀ (u : sm_M) (a1 a2 : Int32), Rel u → ∃ (r : Int32) (u1 u2 : sm_M), sm_call 200 180 (.ref 0 :: [.int a1, .int a2]) u = some (some (.int r), u1) ∧ sm_call 200 308 (.ref 275 :: [.int a1, .int a2]) u1 = some (some (.int r), u2) ∧ u1.1 = SH ∧ Rel u2
/-- thereIn -/
def op_40 (Rel : sm_M → Prop) : Prop := ∀ (u : sm_M) (a1 : Int32), Rel u → ∃ (r : Int32) (u1 u2 : sm_M), sm_call 200 181 (.ref 0 :: [.int a1]) u = some (some (.int r), u1) ∧ sm_call 200 309 (.ref 275 :: [.int a1]) u1 = some (some (.int r), u2) ∧ u1.1 = SH ∧ Rel u2
/-- lookedFor -/
def op_41 (Rel : sm_M → Prop) : Prop := ∀ (u : sm_M) (a1 : Int32), Rel u → ∃ (r : Int32) (u1 u2 : sm_M), sm_call 200 182 (.ref 0 :: [.int a1]) u = some (some (.int r), u1) ∧ sm_call 200 310 (.ref 275 :: [.int a1]) u1 = some (some (.int r), u2) ∧ u1.1 = SH ∧ Rel u2
/-- walk -/
def op_42 (Rel : sm_M → Prop) : Prop := ∀ (u : sm_M) (a1 a2 a3 : Int32), Rel u → ∃ (r : Int32) (u1 u2 : sm_M), sm_call 200 183 (.ref 0 :: [.int a1, .int a2, .int a3]) u = some (some (.int r), u1) ∧ sm_call 200 313 (.ref 275 :: [.int a1, .int a2, .int a3]) u1 = some (some (.int r), u2) ∧ u1.1 = SH ∧ Rel u2
/-- differ -/
def op_43 (Rel : sm_M → Prop) : Prop := ∀ (u : sm_M) (a1 a2 a3 : Int32), Rel u → ∃ (r : Int32) (u1 u2 : sm_M), sm_call 200 184 (.ref 0 :: [.int a1, .int a2, .int a3]) u = some (some (.int r), u1) ∧ sm_call 200 318 (.ref 275 :: [.int a1, .int a2, .int a3]) u1 = some (some (.int r), u2) ∧ u1.1 = SH ∧ Rel u2
/-- unlike -/
def op_44 (Rel : sm_M → Prop) : Prop := ∀ (u : sm_M) (a1 a2 : Int32), Rel u → ∃ (r : Int32) (u1 u2 : sm_M), sm_call 200 185 (.ref 0 :: [.int a1, .int a2]) u = some (some (.int r), u1) ∧ sm_call 200 319 (.ref 275 :: [.int a1, .int a2]) u1 = some (some (.int r), u2) ∧ u1.1 = SH ∧ Rel u2
/-- gifts -/
def op_45 (Rel : sm_M → Prop) : Prop := ∀ (u : sm_M), Rel u → ∃ (r : Int32) (u1 u2 : sm_M), sm_call 200 186 (.ref 0 :: []) u = some (some (.int r), u1) ∧ sm_call 200 320 (.ref 275 :: []) u1 = some (some (.int r), u2) ∧ u1.1 = SH ∧ Rel u2
/-- chance -/
def op_46 (Rel : sm_M → Prop) : Prop := ∀ (u : sm_M) (a1 a2 : Int32), Rel u → (a2 = 0 ∨ a2 = 1) → ∃ (r : Int32) (u1 u2 : sm_M), sm_call 200 187 (.ref 0 :: [.int a1, .int a2]) u = some (some (.int r), u1) ∧ sm_call 200 323 (.ref 275 :: [.int a1, .int a2]) u1 = some (some (.int r), u2) ∧ u1.1 = SH ∧ Rel u2
/-- chanceOf -/
def op_47 (Rel : sm_M → Prop) : Prop := ∀ (u : sm_M) (a1 a2 : Int32), Rel u → (a2 = 0 ∨ a2 = 1) → ∃ (r : Int32) (u1 u2 : sm_M), sm_call 200 188 (.ref 0 :: [.int a1, .int a2]) u = some (some (.int r), u1) ∧ sm_call 200 324 (.ref 275 :: [.int a1, .int a2]) u1 = some (some (.int r), u2) ∧ u1.1 = SH ∧ Rel u2
/-- nearly -/
def op_48 (Rel : sm_M → Prop) : Prop := ∀ (u : sm_M) (a1 : Int32), Rel u → ∃ (r : Int32) (u1 u2 : sm_M), sm_call 200 189 (.ref 0 :: [.int a1]) u = some (some (.int r), u1) ∧ sm_call 200 325 (.ref 275 :: [.int a1]) u1 = some (some (.int r), u2) ∧ u1.1 = SH ∧ Rel u2
/-- laidOut -/
def op_49 (Rel : sm_M → Prop) : Prop := ∀ (u : sm_M) (a1 a2 : Int32), Rel u → ∃ (r : Int32) (u1 u2 : sm_M), sm_call 200 190 (.ref 0 :: [.int a1, .int a2]) u = some (some (.int r), u1) ∧ sm_call 200 328 (.ref 275 :: [.int a1, .int a2]) u1 = some (some (.int r), u2) ∧ u1.1 = SH ∧ Rel u2
/-- alike -/
def op_50 (Rel : sm_M → Prop) : Prop := ∀ (u : sm_M) (a1 : Int32), Rel u → ∃ (r : Int32) (u1 u2 : sm_M), sm_call 200 191 (.ref 0 :: [.int a1]) u = some (some (.int r), u1) ∧ sm_call 200 329 (.ref 275 :: [.int a1]) u1 = some (some (.int r), u2) ∧ u1.1 = SH ∧ Rel u2
/-- image -/
def op_51 (Rel : sm_M → Prop) : Prop := ∀ (u : sm_M), Rel u → ∃ (r : Int32) (u1 u2 : sm_M), sm_call 200 192 (.ref 0 :: []) u = some (some (.int r), u1) ∧ sm_call 200 330 (.ref 275 :: []) u1 = some (some (.int r), u2) ∧ u1.1 = SH ∧ Rel u2
/-- back -/
def op_52 (Rel : sm_M → Prop) : Prop := ∀ (u : sm_M), Rel u → ∃ (r : Int32) (u1 u2 : sm_M), sm_call 200 193 (.ref 0 :: []) u = some (some (.int r), u1) ∧ sm_call 200 331 (.ref 275 :: []) u1 = some (some (.int r), u2) ∧ u1.1 = SH ∧ Rel u2
/-- about -/
def op_53 (Rel : sm_M → Prop) : Prop := ∀ (u : sm_M) (a1 : Int32), Rel u → ∃ (r : Int32) (u1 u2 : sm_M), sm_call 200 194 (.ref 0 :: [.int a1]) u = some (some (.int r), u1) ∧ sm_call 200 332 (.ref 275 :: [.int a1]) u1 = some (some (.int r), u2) ∧ u1.1 = SH ∧ Rel u2
def ops (Rel : sm_M → Prop) : Prop := op_0 Rel ∧ op_1 Rel ∧ op_2 Rel ∧ op_3 Rel ∧ op_4 Rel ∧ op_5 Rel ∧ op_6 Rel ∧ op_7 Rel ∧ op_8 Rel ∧ op_9 Rel ∧ op_10 Rel ∧ op_11 Rel ∧ op_12 Rel ∧ op_13 Rel ∧ op_14 Rel ∧ op_15 Rel ∧ op_16 Rel ∧ op_17 Rel ∧ op_18 Rel ∧ op_19 Rel ∧ op_20 Rel ∧ op_21 Rel ∧ op_22 Rel ∧ op_23 Rel ∧ op_24 Rel ∧ op_25 Rel ∧ op_26 Rel ∧ op_27 Rel ∧ op_28 Rel ∧ op_29 Rel ∧ op_30 Rel ∧ op_31 Rel ∧ op_32 Rel ∧ op_33 Rel ∧ op_34 Rel ∧ op_35 Rel ∧ op_36 Rel ∧ op_37 Rel ∧ op_38 Rel ∧ op_39 Rel ∧ op_40 Rel ∧ op_41 Rel ∧ op_42 Rel ∧ op_43 Rel ∧ op_44 Rel ∧ op_45 Rel ∧ op_46 Rel ∧ op_47 Rel ∧ op_48 Rel ∧ op_49 Rel ∧ op_50 Rel ∧ op_51 Rel ∧ op_52 Rel ∧ op_53 Rel
theorem b01 (c : Prop) [Decidable c] : (if c then (0 : Int32) else 1) = 0 ∨ (if c then (0 : Int32) else 1) = 1 := by split <;> simp
theorem lw_sel {x : Int32} : ∃ j : Nat, j < 64 ∧ x &&& 63 = nI j := pk_andE x (m := 63) 6 (by decide)
set_option maxHeartbeats 4000000 in
set_option maxRecDepth 100000 in
theorem lw_loop {p : Program} {l : Launch} {e : Env} {s : State} {m : MethodId} {below : List Frame} {meth : Method} {c : Code} {D : va_G} {dA : Nat → ClassId} {sA : Nat → Nat} {SP : State → Prop} {b L : Nat} {xs : Nat → Int32} (K : lw_C p l s m meth c D dA sA SP b L xs) (Rel : sm_M → Prop) (hRel : ∀ u, Rel u → u.1 = SH) (O : ops Rel) :
    ∀ (n i : Nat), i ≤ L → L + 1 ≤ i + n → ∀ (u : sm_M), Rel u → ∀ (H : Heap) (locs : List Loc) (la : Array Slot), lv_has la 4 [(0, .ref b), (1, .ref (s.heap.size + 0)), (2, .ref (s.heap.size + 275)), (3, .int (nI i))] → sm_Z D dA s.heap.size s 0 0 u H locs 294 16676 → W p l e room_1 s m #[Value.ref b] below meth c H locs 294 16676 (lw_Z below #[Value.ref b] s) (F0 m 18 la []) := by
  obtain ⟨⟨hx, hb, -⟩, -, ⟨hX, hbl, hL⟩, ⟨hr, hlocks⟩, -⟩ := id K
  have hbA : ¬ (fun q : Nat => s.heap.size ≤ q) b := Nat.not_le.mpr hbl
  intro n
  induction n with
  | zero =>
    intro i h1 h2
    exact absurd h2 (by omega)
  | succ n ih =>
    intro i hi hin u hu H locs la hl hZ
    refine lv_iload_n hx hb (lx_0 (i := 10) (pc := 18) (ins := .iload_n 3) (len := 1) rfl) rfl (lv_at hl 3 rfl) ?_
    refine lv_aload_n hx hb (lx_0 (i := 11) (pc := 19) (ins := .aload_n 0) (len := 1) rfl) rfl (lv_at hl 0 rfl) ?_
    refine va_slen hx hb hX hbl hbA hZ.2.1 (lx_0 (i := 12) (pc := 20) (ins := .arraylength) (len := 1) rfl) ?_
    refine lv_bipush (v := 6) hx hb (lx_0 (i := 13) (pc := 21) (ins := .bipush 6) (len := 2) rfl) rfl ?_
    refine lv_isub hx hb (lx_0 (i := 14) (pc := 23) (ins := .isub) (len := 1) rfl) ?_
    have hcmp : (nI L - 6 < nI i) ↔ ¬ i + 6 ≤ L := by
      have e1 : (nI L - nI 6).toInt = (L : Int) - 6 := pk_sub_toInt (by omega) (by omega)
      have e2 : (nI i).toInt = (i : Int) := nI_toInt (by omega)
      rw [show (6 : Int32) = nI 6 from rfl, Int32.lt_iff_toInt_lt, e1, e2]
      omega
    refine lv_icmp_gt (tgt := 1870) hx hb (lx_0 (i := 15) (pc := 24) (ins := .if_icmp .gt 1846) (len := 3) rfl) (by decide) (fun z => ?_) (fun z => ?_)
    · refine lv_iconst (v := 1) hx hb (lx_9 (i := 66) (pc := 1870) (ins := .iconst 1) (len := 1) rfl) (by decide) ?_
      refine va_forget (fun q hq => hZ.2.1.2.2 q hq) ?_
      refine W.widen (k := 600000) (n := 7302250) (by decide) (by decide) ?_
      exact lw_ret hx hb hr hlocks (lx_9 (i := 67) (pc := 1871) (ins := .ireturn) (len := 1) rfl)
    · have hi6 : i + 6 ≤ L := by
        rcases Nat.lt_or_ge L (i + 6) with q | q
        · exact absurd (hcmp.mpr (by omega)) z
        · exact q
      refine lv_aload_n hx hb (lx_0 (i := 16) (pc := 27) (ins := .aload_n 0) (len := 1) rfl) rfl (lv_at hl 0 rfl) ?_
      refine lv_iload_n hx hb (lx_0 (i := 17) (pc := 28) (ins := .iload_n 3) (len := 1) rfl) rfl (lv_at hl 3 rfl) ?_
      refine va_sld hx hb hX hbl hbA hZ.2.1 (vp_in_nI (by omega) (by omega)) (lx_0 (i := 18) (pc := 29) (ins := .iaload) (len := 1) rfl) ?_
      refine lv_bipush (v := 63) hx hb (lx_0 (i := 19) (pc := 30) (ins := .bipush 63) (len := 2) rfl) rfl ?_
      refine lv_iand hx hb (lx_0 (i := 20) (pc := 32) (ins := .iand) (len := 1) rfl) ?_
      have next : ∀ (u2 : sm_M), Rel u2 → ∀ H1 locs1, sm_Z D dA s.heap.size s 0 0 u2 H1 locs1 294 16676 → W p l e room_1 s m #[Value.ref b] below meth c H1 locs1 294 16676 (lw_Z below #[Value.ref b] s) (F0 m 1864 la []) := by
        intro u2 hu2 H1 locs1 hZ1
        refine lv_iinc (v := nI (i + 6)) (lv' := [(3, .int (nI (i + 6))), (0, .ref b), (1, .ref (s.heap.size + 0)), (2, .ref (s.heap.size + 275))]) hx hb (lx_9 (i := 64) (pc := 1864) (ins := .iinc 3 6) (len := 3) rfl) hl (k := 3) rfl (by rw [← nI_add]; rfl) (by decide) rfl (fun la' hl' => ?_)
        refine lv_goto (tgt := 18) hx hb (lx_9 (i := 65) (pc := 1867) (ins := .goto (-1849)) (len := 3) rfl) (by decide) ?_
        exact ih (i + 6) (by omega) (by omega) u2 hu2 H1 locs1 la' (lv_sub hl' [1, 2, 3, 0] rfl) hZ1
      obtain ⟨j, hj, hxj⟩ := lw_sel (x := xs (nI i).toNatClampNeg)
      rw [hxj]
      have hSH := hRel u hu
      obtain ⟨o0, o1, o2, o3, o4, o5, o6, o7, o8, o9, o10, o11, o12, o13, o14, o15, o16, o17, o18, o19, o20, o21, o22, o23, o24, o25, o26, o27, o28, o29, o30, o31, o32, o33, o34, o35, o36, o37, o38, o39, o40, o41, o42, o43, o44, o45, o46, o47, o48, o49, o50, o51, o52, o53⟩ := O
      rcases (show j = 0 ∨ j = 1 ∨ j = 2 ∨ j = 3 ∨ j = 4 ∨ j = 5 ∨ j = 6 ∨ j = 7 ∨ j = 8 ∨ j = 9 ∨ j = 10 ∨ j = 11 ∨ j = 12 ∨ j = 13 ∨ j = 14 ∨ j = 15 ∨ j = 16 ∨ j = 17 ∨ j = 18 ∨ j = 19 ∨ j = 20 ∨ j = 21 ∨ j = 22 ∨ j = 23 ∨ j = 24 ∨ j = 25 ∨ j = 26 ∨ j = 27 ∨ j = 28 ∨ j = 29 ∨ j = 30 ∨ j = 31 ∨ j = 32 ∨ j = 33 ∨ j = 34 ∨ j = 35 ∨ j = 36 ∨ j = 37 ∨ j = 38 ∨ j = 39 ∨ j = 40 ∨ j = 41 ∨ j = 42 ∨ j = 43 ∨ j = 44 ∨ j = 45 ∨ j = 46 ∨ j = 47 ∨ j = 48 ∨ j = 49 ∨ j = 50 ∨ j = 51 ∨ j = 52 ∨ j = 53 ∨ 54 ≤ j by omega) with rfl | rfl | rfl | rfl | rfl | rfl | rfl | rfl | rfl | rfl | rfl | rfl | rfl | rfl | rfl | rfl | rfl | rfl | rfl | rfl | rfl | rfl | rfl | rfl | rfl | rfl | rfl | rfl | rfl | rfl | rfl | rfl | rfl | rfl | rfl | rfl | rfl | rfl | rfl | rfl | rfl | rfl | rfl | rfl | rfl | rfl | rfl | rfl | rfl | rfl | rfl | rfl | rfl | rfl | hj54
      · obtain ⟨r, u1, u2, g1, g2, e1, e2⟩ := o0 u (xs (i + 1)) (xs (i + 2)) hu 
        exact lv_tableIn (off := 231) (tgt := 264) hx hb (lx_0 (i := 21) (pc := 33) (ins := .tableswitch 1831 0 53 #[231, 264, 317, 350, 393, 456, 479, 492, 515, 538, 561, 594, 627, 650, 673, 706, 719, 752, 785, 818, 831, 864, 887, 910, 923, 972, 995, 1070, 1093, 1132, 1155, 1168, 1191, 1214, 1237, 1250, 1263, 1312, 1335, 1394, 1427, 1450, 1473, 1516, 1559, 1592, 1605, 1654, 1703, 1726, 1759, 1782, 1795, 1808]) (len := 231) rfl) (by decide) (by decide) rfl (by decide) (lc_0 K hi6 g1 g2 hSH e1 (hRel u2 e2) hl hZ ⟨by decide, by decide⟩ (next u2 e2))
      · obtain ⟨r, u1, u2, g1, g2, e1, e2⟩ := o1 u (xs (i + 1)) (xs (i + 2)) (xs (i + 3)) (xs (i + 4)) hu 
        exact lv_tableIn (off := 264) (tgt := 297) hx hb (lx_0 (i := 21) (pc := 33) (ins := .tableswitch 1831 0 53 #[231, 264, 317, 350, 393, 456, 479, 492, 515, 538, 561, 594, 627, 650, 673, 706, 719, 752, 785, 818, 831, 864, 887, 910, 923, 972, 995, 1070, 1093, 1132, 1155, 1168, 1191, 1214, 1237, 1250, 1263, 1312, 1335, 1394, 1427, 1450, 1473, 1516, 1559, 1592, 1605, 1654, 1703, 1726, 1759, 1782, 1795, 1808]) (len := 231) rfl) (by decide) (by decide) rfl (by decide) (lc_1 K hi6 g1 g2 hSH e1 (hRel u2 e2) hl hZ ⟨by decide, by decide⟩ (next u2 e2))
      · obtain ⟨r, u1, u2, g1, g2, e1, e2⟩ := o2 u (xs (i + 1)) (xs (i + 2)) hu 
        exact lv_tableIn (off := 317) (tgt := 350) hx hb (lx_0 (i := 21) (pc := 33) (ins := .tableswitch 1831 0 53 #[231, 264, 317, 350, 393, 456, 479, 492, 515, 538, 561, 594, 627, 650, 673, 706, 719, 752, 785, 818, 831, 864, 887, 910, 923, 972, 995, 1070, 1093, 1132, 1155, 1168, 1191, 1214, 1237, 1250, 1263, 1312, 1335, 1394, 1427, 1450, 1473, 1516, 1559, 1592, 1605, 1654, 1703, 1726, 1759, 1782, 1795, 1808]) (len := 231) rfl) (by decide) (by decide) rfl (by decide) (lc_2 K hi6 g1 g2 hSH e1 (hRel u2 e2) hl hZ ⟨by decide, by decide⟩ (next u2 e2))
      · obtain ⟨r, u1, u2, g1, g2, e1, e2⟩ := o3 u (xs (i + 1)) (xs (i + 2)) (xs (i + 3)) hu 
        exact lv_tableIn (off := 350) (tgt := 383) hx hb (lx_0 (i := 21) (pc := 33) (ins := .tableswitch 1831 0 53 #[231, 264, 317, 350, 393, 456, 479, 492, 515, 538, 561, 594, 627, 650, 673, 706, 719, 752, 785, 818, 831, 864, 887, 910, 923, 972, 995, 1070, 1093, 1132, 1155, 1168, 1191, 1214, 1237, 1250, 1263, 1312, 1335, 1394, 1427, 1450, 1473, 1516, 1559, 1592, 1605, 1654, 1703, 1726, 1759, 1782, 1795, 1808]) (len := 231) rfl) (by decide) (by decide) rfl (by decide) (lc_3 K hi6 g1 g2 hSH e1 (hRel u2 e2) hl hZ ⟨by decide, by decide⟩ (next u2 e2))
      · obtain ⟨r, u1, u2, g1, g2, e1, e2⟩ := o4 u (xs (i + 1)) (xs (i + 2)) (xs (i + 3)) (xs (i + 4)) (xs (i + 5)) hu 
        exact lv_tableIn (off := 393) (tgt := 426) hx hb (lx_0 (i := 21) (pc := 33) (ins := .tableswitch 1831 0 53 #[231, 264, 317, 350, 393, 456, 479, 492, 515, 538, 561, 594, 627, 650, 673, 706, 719, 752, 785, 818, 831, 864, 887, 910, 923, 972, 995, 1070, 1093, 1132, 1155, 1168, 1191, 1214, 1237, 1250, 1263, 1312, 1335, 1394, 1427, 1450, 1473, 1516, 1559, 1592, 1605, 1654, 1703, 1726, 1759, 1782, 1795, 1808]) (len := 231) rfl) (by decide) (by decide) rfl (by decide) (lc_4 K hi6 g1 g2 hSH e1 (hRel u2 e2) hl hZ ⟨by decide, by decide⟩ (next u2 e2))
      · obtain ⟨r, u1, u2, g1, g2, e1, e2⟩ := o5 u (xs (i + 1)) hu 
        exact lv_tableIn (off := 456) (tgt := 489) hx hb (lx_0 (i := 21) (pc := 33) (ins := .tableswitch 1831 0 53 #[231, 264, 317, 350, 393, 456, 479, 492, 515, 538, 561, 594, 627, 650, 673, 706, 719, 752, 785, 818, 831, 864, 887, 910, 923, 972, 995, 1070, 1093, 1132, 1155, 1168, 1191, 1214, 1237, 1250, 1263, 1312, 1335, 1394, 1427, 1450, 1473, 1516, 1559, 1592, 1605, 1654, 1703, 1726, 1759, 1782, 1795, 1808]) (len := 231) rfl) (by decide) (by decide) rfl (by decide) (lc_5 K hi6 g1 g2 hSH e1 (hRel u2 e2) hl hZ ⟨by decide, by decide⟩ (next u2 e2))
      · obtain ⟨r, u1, u2, g1, g2, e1, e2⟩ := o6 u  hu 
        exact lv_tableIn (off := 479) (tgt := 512) hx hb (lx_0 (i := 21) (pc := 33) (ins := .tableswitch 1831 0 53 #[231, 264, 317, 350, 393, 456, 479, 492, 515, 538, 561, 594, 627, 650, 673, 706, 719, 752, 785, 818, 831, 864, 887, 910, 923, 972, 995, 1070, 1093, 1132, 1155, 1168, 1191, 1214, 1237, 1250, 1263, 1312, 1335, 1394, 1427, 1450, 1473, 1516, 1559, 1592, 1605, 1654, 1703, 1726, 1759, 1782, 1795, 1808]) (len := 231) rfl) (by decide) (by decide) rfl (by decide) (lc_6 K hi6 g1 g2 hSH e1 (hRel u2 e2) hl hZ ⟨by decide, by decide⟩ (next u2 e2))
      · obtain ⟨r, u1, u2, g1, g2, e1, e2⟩ := o7 u (xs (i + 1)) hu 
        exact lv_tableIn (off := 492) (tgt := 525) hx hb (lx_0 (i := 21) (pc := 33) (ins := .tableswitch 1831 0 53 #[231, 264, 317, 350, 393, 456, 479, 492, 515, 538, 561, 594, 627, 650, 673, 706, 719, 752, 785, 818, 831, 864, 887, 910, 923, 972, 995, 1070, 1093, 1132, 1155, 1168, 1191, 1214, 1237, 1250, 1263, 1312, 1335, 1394, 1427, 1450, 1473, 1516, 1559, 1592, 1605, 1654, 1703, 1726, 1759, 1782, 1795, 1808]) (len := 231) rfl) (by decide) (by decide) rfl (by decide) (lc_7 K hi6 g1 g2 hSH e1 (hRel u2 e2) hl hZ ⟨by decide, by decide⟩ (next u2 e2))
      · obtain ⟨r, u1, u2, g1, g2, e1, e2⟩ := o8 u (xs (i + 1)) hu 
        exact lv_tableIn (off := 515) (tgt := 548) hx hb (lx_0 (i := 21) (pc := 33) (ins := .tableswitch 1831 0 53 #[231, 264, 317, 350, 393, 456, 479, 492, 515, 538, 561, 594, 627, 650, 673, 706, 719, 752, 785, 818, 831, 864, 887, 910, 923, 972, 995, 1070, 1093, 1132, 1155, 1168, 1191, 1214, 1237, 1250, 1263, 1312, 1335, 1394, 1427, 1450, 1473, 1516, 1559, 1592, 1605, 1654, 1703, 1726, 1759, 1782, 1795, 1808]) (len := 231) rfl) (by decide) (by decide) rfl (by decide) (lc_8 K hi6 g1 g2 hSH e1 (hRel u2 e2) hl hZ ⟨by decide, by decide⟩ (next u2 e2))
      · obtain ⟨r, u1, u2, g1, g2, e1, e2⟩ := o9 u (xs (i + 1)) hu 
        exact lv_tableIn (off := 538) (tgt := 571) hx hb (lx_0 (i := 21) (pc := 33) (ins := .tableswitch 1831 0 53 #[231, 264, 317, 350, 393, 456, 479, 492, 515, 538, 561, 594, 627, 650, 673, 706, 719, 752, 785, 818, 831, 864, 887, 910, 923, 972, 995, 1070, 1093, 1132, 1155, 1168, 1191, 1214, 1237, 1250, 1263, 1312, 1335, 1394, 1427, 1450, 1473, 1516, 1559, 1592, 1605, 1654, 1703, 1726, 1759, 1782, 1795, 1808]) (len := 231) rfl) (by decide) (by decide) rfl (by decide) (lc_9 K hi6 g1 g2 hSH e1 (hRel u2 e2) hl hZ ⟨by decide, by decide⟩ (next u2 e2))
      · obtain ⟨r, u1, u2, g1, g2, e1, e2⟩ := o10 u (xs (i + 1)) (xs (i + 2)) hu 
        exact lv_tableIn (off := 561) (tgt := 594) hx hb (lx_0 (i := 21) (pc := 33) (ins := .tableswitch 1831 0 53 #[231, 264, 317, 350, 393, 456, 479, 492, 515, 538, 561, 594, 627, 650, 673, 706, 719, 752, 785, 818, 831, 864, 887, 910, 923, 972, 995, 1070, 1093, 1132, 1155, 1168, 1191, 1214, 1237, 1250, 1263, 1312, 1335, 1394, 1427, 1450, 1473, 1516, 1559, 1592, 1605, 1654, 1703, 1726, 1759, 1782, 1795, 1808]) (len := 231) rfl) (by decide) (by decide) rfl (by decide) (lc_10 K hi6 g1 g2 hSH e1 (hRel u2 e2) hl hZ ⟨by decide, by decide⟩ (next u2 e2))
      · obtain ⟨r, u1, u2, g1, g2, e1, e2⟩ := o11 u (xs (i + 1)) (xs (i + 2)) hu 
        exact lv_tableIn (off := 594) (tgt := 627) hx hb (lx_0 (i := 21) (pc := 33) (ins := .tableswitch 1831 0 53 #[231, 264, 317, 350, 393, 456, 479, 492, 515, 538, 561, 594, 627, 650, 673, 706, 719, 752, 785, 818, 831, 864, 887, 910, 923, 972, 995, 1070, 1093, 1132, 1155, 1168, 1191, 1214, 1237, 1250, 1263, 1312, 1335, 1394, 1427, 1450, 1473, 1516, 1559, 1592, 1605, 1654, 1703, 1726, 1759, 1782, 1795, 1808]) (len := 231) rfl) (by decide) (by decide) rfl (by decide) (lc_11 K hi6 g1 g2 hSH e1 (hRel u2 e2) hl hZ ⟨by decide, by decide⟩ (next u2 e2))
      · obtain ⟨r, u1, u2, g1, g2, e1, e2⟩ := o12 u (xs (i + 1)) hu 
        exact lv_tableIn (off := 627) (tgt := 660) hx hb (lx_0 (i := 21) (pc := 33) (ins := .tableswitch 1831 0 53 #[231, 264, 317, 350, 393, 456, 479, 492, 515, 538, 561, 594, 627, 650, 673, 706, 719, 752, 785, 818, 831, 864, 887, 910, 923, 972, 995, 1070, 1093, 1132, 1155, 1168, 1191, 1214, 1237, 1250, 1263, 1312, 1335, 1394, 1427, 1450, 1473, 1516, 1559, 1592, 1605, 1654, 1703, 1726, 1759, 1782, 1795, 1808]) (len := 231) rfl) (by decide) (by decide) rfl (by decide) (lc_12 K hi6 g1 g2 hSH e1 (hRel u2 e2) hl hZ ⟨by decide, by decide⟩ (next u2 e2))
      · obtain ⟨r, u1, u2, g1, g2, e1, e2⟩ := o13 u (xs (i + 1)) hu 
        exact lv_tableIn (off := 650) (tgt := 683) hx hb (lx_0 (i := 21) (pc := 33) (ins := .tableswitch 1831 0 53 #[231, 264, 317, 350, 393, 456, 479, 492, 515, 538, 561, 594, 627, 650, 673, 706, 719, 752, 785, 818, 831, 864, 887, 910, 923, 972, 995, 1070, 1093, 1132, 1155, 1168, 1191, 1214, 1237, 1250, 1263, 1312, 1335, 1394, 1427, 1450, 1473, 1516, 1559, 1592, 1605, 1654, 1703, 1726, 1759, 1782, 1795, 1808]) (len := 231) rfl) (by decide) (by decide) rfl (by decide) (lc_13 K hi6 g1 g2 hSH e1 (hRel u2 e2) hl hZ ⟨by decide, by decide⟩ (next u2 e2))
      · obtain ⟨r, u1, u2, g1, g2, e1, e2⟩ := o14 u (xs (i + 1)) (xs (i + 2)) hu 
        exact lv_tableIn (off := 673) (tgt := 706) hx hb (lx_0 (i := 21) (pc := 33) (ins := .tableswitch 1831 0 53 #[231, 264, 317, 350, 393, 456, 479, 492, 515, 538, 561, 594, 627, 650, 673, 706, 719, 752, 785, 818, 831, 864, 887, 910, 923, 972, 995, 1070, 1093, 1132, 1155, 1168, 1191, 1214, 1237, 1250, 1263, 1312, 1335, 1394, 1427, 1450, 1473, 1516, 1559, 1592, 1605, 1654, 1703, 1726, 1759, 1782, 1795, 1808]) (len := 231) rfl) (by decide) (by decide) rfl (by decide) (lc_14 K hi6 g1 g2 hSH e1 (hRel u2 e2) hl hZ ⟨by decide, by decide⟩ (next u2 e2))
      · obtain ⟨r, u1, u2, g1, g2, e1, e2⟩ := o15 u  hu 
        exact lv_tableIn (off := 706) (tgt := 739) hx hb (lx_0 (i := 21) (pc := 33) (ins := .tableswitch 1831 0 53 #[231, 264, 317, 350, 393, 456, 479, 492, 515, 538, 561, 594, 627, 650, 673, 706, 719, 752, 785, 818, 831, 864, 887, 910, 923, 972, 995, 1070, 1093, 1132, 1155, 1168, 1191, 1214, 1237, 1250, 1263, 1312, 1335, 1394, 1427, 1450, 1473, 1516, 1559, 1592, 1605, 1654, 1703, 1726, 1759, 1782, 1795, 1808]) (len := 231) rfl) (by decide) (by decide) rfl (by decide) (lc_15 K hi6 g1 g2 hSH e1 (hRel u2 e2) hl hZ ⟨by decide, by decide⟩ (next u2 e2))
      · obtain ⟨r, u1, u2, g1, g2, e1, e2⟩ := o16 u (xs (i + 1)) (xs (i + 2)) hu 
        exact lv_tableIn (off := 719) (tgt := 752) hx hb (lx_0 (i := 21) (pc := 33) (ins := .tableswitch 1831 0 53 #[231, 264, 317, 350, 393, 456, 479, 492, 515, 538, 561, 594, 627, 650, 673, 706, 719, 752, 785, 818, 831, 864, 887, 910, 923, 972, 995, 1070, 1093, 1132, 1155, 1168, 1191, 1214, 1237, 1250, 1263, 1312, 1335, 1394, 1427, 1450, 1473, 1516, 1559, 1592, 1605, 1654, 1703, 1726, 1759, 1782, 1795, 1808]) (len := 231) rfl) (by decide) (by decide) rfl (by decide) (lc_16 K hi6 g1 g2 hSH e1 (hRel u2 e2) hl hZ ⟨by decide, by decide⟩ (next u2 e2))
      · obtain ⟨r, u1, u2, g1, g2, e1, e2⟩ := o17 u (xs (i + 1)) (xs (i + 2)) hu 
        exact lv_tableIn (off := 752) (tgt := 785) hx hb (lx_0 (i := 21) (pc := 33) (ins := .tableswitch 1831 0 53 #[231, 264, 317, 350, 393, 456, 479, 492, 515, 538, 561, 594, 627, 650, 673, 706, 719, 752, 785, 818, 831, 864, 887, 910, 923, 972, 995, 1070, 1093, 1132, 1155, 1168, 1191, 1214, 1237, 1250, 1263, 1312, 1335, 1394, 1427, 1450, 1473, 1516, 1559, 1592, 1605, 1654, 1703, 1726, 1759, 1782, 1795, 1808]) (len := 231) rfl) (by decide) (by decide) rfl (by decide) (lc_17 K hi6 g1 g2 hSH e1 (hRel u2 e2) hl hZ ⟨by decide, by decide⟩ (next u2 e2))
      · obtain ⟨r, u1, u2, g1, g2, e1, e2⟩ := o18 u (xs (i + 1)) (xs (i + 2)) hu 
        exact lv_tableIn (off := 785) (tgt := 818) hx hb (lx_0 (i := 21) (pc := 33) (ins := .tableswitch 1831 0 53 #[231, 264, 317, 350, 393, 456, 479, 492, 515, 538, 561, 594, 627, 650, 673, 706, 719, 752, 785, 818, 831, 864, 887, 910, 923, 972, 995, 1070, 1093, 1132, 1155, 1168, 1191, 1214, 1237, 1250, 1263, 1312, 1335, 1394, 1427, 1450, 1473, 1516, 1559, 1592, 1605, 1654, 1703, 1726, 1759, 1782, 1795, 1808]) (len := 231) rfl) (by decide) (by decide) rfl (by decide) (lc_18 K hi6 g1 g2 hSH e1 (hRel u2 e2) hl hZ ⟨by decide, by decide⟩ (next u2 e2))
      · obtain ⟨r, u1, u2, g1, g2, e1, e2⟩ := o19 u  hu 
        exact lv_tableIn (off := 818) (tgt := 851) hx hb (lx_0 (i := 21) (pc := 33) (ins := .tableswitch 1831 0 53 #[231, 264, 317, 350, 393, 456, 479, 492, 515, 538, 561, 594, 627, 650, 673, 706, 719, 752, 785, 818, 831, 864, 887, 910, 923, 972, 995, 1070, 1093, 1132, 1155, 1168, 1191, 1214, 1237, 1250, 1263, 1312, 1335, 1394, 1427, 1450, 1473, 1516, 1559, 1592, 1605, 1654, 1703, 1726, 1759, 1782, 1795, 1808]) (len := 231) rfl) (by decide) (by decide) rfl (by decide) (lc_19 K hi6 g1 g2 hSH e1 (hRel u2 e2) hl hZ ⟨by decide, by decide⟩ (next u2 e2))
      · obtain ⟨r, u1, u2, g1, g2, e1, e2⟩ := o20 u (xs (i + 1)) (xs (i + 2)) hu 
        exact lv_tableIn (off := 831) (tgt := 864) hx hb (lx_0 (i := 21) (pc := 33) (ins := .tableswitch 1831 0 53 #[231, 264, 317, 350, 393, 456, 479, 492, 515, 538, 561, 594, 627, 650, 673, 706, 719, 752, 785, 818, 831, 864, 887, 910, 923, 972, 995, 1070, 1093, 1132, 1155, 1168, 1191, 1214, 1237, 1250, 1263, 1312, 1335, 1394, 1427, 1450, 1473, 1516, 1559, 1592, 1605, 1654, 1703, 1726, 1759, 1782, 1795, 1808]) (len := 231) rfl) (by decide) (by decide) rfl (by decide) (lc_20 K hi6 g1 g2 hSH e1 (hRel u2 e2) hl hZ ⟨by decide, by decide⟩ (next u2 e2))
      · obtain ⟨r, u1, u2, g1, g2, e1, e2⟩ := o21 u (xs (i + 1)) hu 
        exact lv_tableIn (off := 864) (tgt := 897) hx hb (lx_0 (i := 21) (pc := 33) (ins := .tableswitch 1831 0 53 #[231, 264, 317, 350, 393, 456, 479, 492, 515, 538, 561, 594, 627, 650, 673, 706, 719, 752, 785, 818, 831, 864, 887, 910, 923, 972, 995, 1070, 1093, 1132, 1155, 1168, 1191, 1214, 1237, 1250, 1263, 1312, 1335, 1394, 1427, 1450, 1473, 1516, 1559, 1592, 1605, 1654, 1703, 1726, 1759, 1782, 1795, 1808]) (len := 231) rfl) (by decide) (by decide) rfl (by decide) (lc_21 K hi6 g1 g2 hSH e1 (hRel u2 e2) hl hZ ⟨by decide, by decide⟩ (next u2 e2))
      · obtain ⟨r, u1, u2, g1, g2, e1, e2⟩ := o22 u (xs (i + 1)) hu 
        exact lv_tableIn (off := 887) (tgt := 920) hx hb (lx_0 (i := 21) (pc := 33) (ins := .tableswitch 1831 0 53 #[231, 264, 317, 350, 393, 456, 479, 492, 515, 538, 561, 594, 627, 650, 673, 706, 719, 752, 785, 818, 831, 864, 887, 910, 923, 972, 995, 1070, 1093, 1132, 1155, 1168, 1191, 1214, 1237, 1250, 1263, 1312, 1335, 1394, 1427, 1450, 1473, 1516, 1559, 1592, 1605, 1654, 1703, 1726, 1759, 1782, 1795, 1808]) (len := 231) rfl) (by decide) (by decide) rfl (by decide) (lc_22 K hi6 g1 g2 hSH e1 (hRel u2 e2) hl hZ ⟨by decide, by decide⟩ (next u2 e2))
      · obtain ⟨r, u1, u2, g1, g2, e1, e2⟩ := o23 u  hu 
        exact lv_tableIn (off := 910) (tgt := 943) hx hb (lx_0 (i := 21) (pc := 33) (ins := .tableswitch 1831 0 53 #[231, 264, 317, 350, 393, 456, 479, 492, 515, 538, 561, 594, 627, 650, 673, 706, 719, 752, 785, 818, 831, 864, 887, 910, 923, 972, 995, 1070, 1093, 1132, 1155, 1168, 1191, 1214, 1237, 1250, 1263, 1312, 1335, 1394, 1427, 1450, 1473, 1516, 1559, 1592, 1605, 1654, 1703, 1726, 1759, 1782, 1795, 1808]) (len := 231) rfl) (by decide) (by decide) rfl (by decide) (lc_23 K hi6 g1 g2 hSH e1 (hRel u2 e2) hl hZ ⟨by decide, by decide⟩ (next u2 e2))
      · obtain ⟨r, u1, u2, g1, g2, e1, e2⟩ := o24 u (xs (i + 1)) (if xs (i + 2) = 0 then 0 else 1) hu (b01 _)
        exact lv_tableIn (off := 923) (tgt := 956) hx hb (lx_0 (i := 21) (pc := 33) (ins := .tableswitch 1831 0 53 #[231, 264, 317, 350, 393, 456, 479, 492, 515, 538, 561, 594, 627, 650, 673, 706, 719, 752, 785, 818, 831, 864, 887, 910, 923, 972, 995, 1070, 1093, 1132, 1155, 1168, 1191, 1214, 1237, 1250, 1263, 1312, 1335, 1394, 1427, 1450, 1473, 1516, 1559, 1592, 1605, 1654, 1703, 1726, 1759, 1782, 1795, 1808]) (len := 231) rfl) (by decide) (by decide) rfl (by decide) (lc_24 K hi6 g1 g2 hSH e1 (hRel u2 e2) hl hZ ⟨by decide, by decide⟩ (next u2 e2))
      · obtain ⟨r, u1, u2, g1, g2, e1, e2⟩ := o25 u (xs (i + 1)) hu 
        exact lv_tableIn (off := 972) (tgt := 1005) hx hb (lx_0 (i := 21) (pc := 33) (ins := .tableswitch 1831 0 53 #[231, 264, 317, 350, 393, 456, 479, 492, 515, 538, 561, 594, 627, 650, 673, 706, 719, 752, 785, 818, 831, 864, 887, 910, 923, 972, 995, 1070, 1093, 1132, 1155, 1168, 1191, 1214, 1237, 1250, 1263, 1312, 1335, 1394, 1427, 1450, 1473, 1516, 1559, 1592, 1605, 1654, 1703, 1726, 1759, 1782, 1795, 1808]) (len := 231) rfl) (by decide) (by decide) rfl (by decide) (lc_25 K hi6 g1 g2 hSH e1 (hRel u2 e2) hl hZ ⟨by decide, by decide⟩ (next u2 e2))
      · obtain ⟨r, u1, u2, g1, g2, e1, e2⟩ := o26 u (xs (i + 1)) (if xs (i + 2) = 0 then 0 else 1) (if xs (i + 3) = 0 then 0 else 1) hu (b01 _) (b01 _)
        exact lv_tableIn (off := 995) (tgt := 1028) hx hb (lx_0 (i := 21) (pc := 33) (ins := .tableswitch 1831 0 53 #[231, 264, 317, 350, 393, 456, 479, 492, 515, 538, 561, 594, 627, 650, 673, 706, 719, 752, 785, 818, 831, 864, 887, 910, 923, 972, 995, 1070, 1093, 1132, 1155, 1168, 1191, 1214, 1237, 1250, 1263, 1312, 1335, 1394, 1427, 1450, 1473, 1516, 1559, 1592, 1605, 1654, 1703, 1726, 1759, 1782, 1795, 1808]) (len := 231) rfl) (by decide) (by decide) rfl (by decide) (lc_26 K hi6 g1 g2 hSH e1 (hRel u2 e2) hl hZ ⟨by decide, by decide⟩ (next u2 e2))
      · obtain ⟨r, u1, u2, g1, g2, e1, e2⟩ := o27 u (xs (i + 1)) hu 
        exact lv_tableIn (off := 1070) (tgt := 1103) hx hb (lx_0 (i := 21) (pc := 33) (ins := .tableswitch 1831 0 53 #[231, 264, 317, 350, 393, 456, 479, 492, 515, 538, 561, 594, 627, 650, 673, 706, 719, 752, 785, 818, 831, 864, 887, 910, 923, 972, 995, 1070, 1093, 1132, 1155, 1168, 1191, 1214, 1237, 1250, 1263, 1312, 1335, 1394, 1427, 1450, 1473, 1516, 1559, 1592, 1605, 1654, 1703, 1726, 1759, 1782, 1795, 1808]) (len := 231) rfl) (by decide) (by decide) rfl (by decide) (lc_27 K hi6 g1 g2 hSH e1 (hRel u2 e2) hl hZ ⟨by decide, by decide⟩ (next u2 e2))
      · obtain ⟨r, u1, u2, g1, g2, e1, e2⟩ := o28 u (if xs (i + 1) = 0 then 0 else 1) hu (b01 _)
        exact lv_tableIn (off := 1093) (tgt := 1126) hx hb (lx_0 (i := 21) (pc := 33) (ins := .tableswitch 1831 0 53 #[231, 264, 317, 350, 393, 456, 479, 492, 515, 538, 561, 594, 627, 650, 673, 706, 719, 752, 785, 818, 831, 864, 887, 910, 923, 972, 995, 1070, 1093, 1132, 1155, 1168, 1191, 1214, 1237, 1250, 1263, 1312, 1335, 1394, 1427, 1450, 1473, 1516, 1559, 1592, 1605, 1654, 1703, 1726, 1759, 1782, 1795, 1808]) (len := 231) rfl) (by decide) (by decide) rfl (by decide) (lc_28 K hi6 g1 g2 hSH e1 (hRel u2 e2) hl hZ ⟨by decide, by decide⟩ (next u2 e2))
      · obtain ⟨r, u1, u2, g1, g2, e1, e2⟩ := o29 u (xs (i + 1)) hu 
        exact lv_tableIn (off := 1132) (tgt := 1165) hx hb (lx_0 (i := 21) (pc := 33) (ins := .tableswitch 1831 0 53 #[231, 264, 317, 350, 393, 456, 479, 492, 515, 538, 561, 594, 627, 650, 673, 706, 719, 752, 785, 818, 831, 864, 887, 910, 923, 972, 995, 1070, 1093, 1132, 1155, 1168, 1191, 1214, 1237, 1250, 1263, 1312, 1335, 1394, 1427, 1450, 1473, 1516, 1559, 1592, 1605, 1654, 1703, 1726, 1759, 1782, 1795, 1808]) (len := 231) rfl) (by decide) (by decide) rfl (by decide) (lc_29 K hi6 g1 g2 hSH e1 (hRel u2 e2) hl hZ ⟨by decide, by decide⟩ (next u2 e2))
      · obtain ⟨r, u1, u2, g1, g2, e1, e2⟩ := o30 u  hu 
        exact lv_tableIn (off := 1155) (tgt := 1188) hx hb (lx_0 (i := 21) (pc := 33) (ins := .tableswitch 1831 0 53 #[231, 264, 317, 350, 393, 456, 479, 492, 515, 538, 561, 594, 627, 650, 673, 706, 719, 752, 785, 818, 831, 864, 887, 910, 923, 972, 995, 1070, 1093, 1132, 1155, 1168, 1191, 1214, 1237, 1250, 1263, 1312, 1335, 1394, 1427, 1450, 1473, 1516, 1559, 1592, 1605, 1654, 1703, 1726, 1759, 1782, 1795, 1808]) (len := 231) rfl) (by decide) (by decide) rfl (by decide) (lc_30 K hi6 g1 g2 hSH e1 (hRel u2 e2) hl hZ ⟨by decide, by decide⟩ (next u2 e2))
      · obtain ⟨r, u1, u2, g1, g2, e1, e2⟩ := o31 u (xs (i + 1)) hu 
        exact lv_tableIn (off := 1168) (tgt := 1201) hx hb (lx_0 (i := 21) (pc := 33) (ins := .tableswitch 1831 0 53 #[231, 264, 317, 350, 393, 456, 479, 492, 515, 538, 561, 594, 627, 650, 673, 706, 719, 752, 785, 818, 831, 864, 887, 910, 923, 972, 995, 1070, 1093, 1132, 1155, 1168, 1191, 1214, 1237, 1250, 1263, 1312, 1335, 1394, 1427, 1450, 1473, 1516, 1559, 1592, 1605, 1654, 1703, 1726, 1759, 1782, 1795, 1808]) (len := 231) rfl) (by decide) (by decide) rfl (by decide) (lc_31 K hi6 g1 g2 hSH e1 (hRel u2 e2) hl hZ ⟨by decide, by decide⟩ (next u2 e2))
      · obtain ⟨r, u1, u2, g1, g2, e1, e2⟩ := o32 u (xs (i + 1)) hu 
        exact lv_tableIn (off := 1191) (tgt := 1224) hx hb (lx_0 (i := 21) (pc := 33) (ins := .tableswitch 1831 0 53 #[231, 264, 317, 350, 393, 456, 479, 492, 515, 538, 561, 594, 627, 650, 673, 706, 719, 752, 785, 818, 831, 864, 887, 910, 923, 972, 995, 1070, 1093, 1132, 1155, 1168, 1191, 1214, 1237, 1250, 1263, 1312, 1335, 1394, 1427, 1450, 1473, 1516, 1559, 1592, 1605, 1654, 1703, 1726, 1759, 1782, 1795, 1808]) (len := 231) rfl) (by decide) (by decide) rfl (by decide) (lc_32 K hi6 g1 g2 hSH e1 (hRel u2 e2) hl hZ ⟨by decide, by decide⟩ (next u2 e2))
      · obtain ⟨r, u1, u2, g1, g2, e1, e2⟩ := o33 u (xs (i + 1)) hu 
        exact lv_tableIn (off := 1214) (tgt := 1247) hx hb (lx_0 (i := 21) (pc := 33) (ins := .tableswitch 1831 0 53 #[231, 264, 317, 350, 393, 456, 479, 492, 515, 538, 561, 594, 627, 650, 673, 706, 719, 752, 785, 818, 831, 864, 887, 910, 923, 972, 995, 1070, 1093, 1132, 1155, 1168, 1191, 1214, 1237, 1250, 1263, 1312, 1335, 1394, 1427, 1450, 1473, 1516, 1559, 1592, 1605, 1654, 1703, 1726, 1759, 1782, 1795, 1808]) (len := 231) rfl) (by decide) (by decide) rfl (by decide) (lc_33 K hi6 g1 g2 hSH e1 (hRel u2 e2) hl hZ ⟨by decide, by decide⟩ (next u2 e2))
      · obtain ⟨r, u1, u2, g1, g2, e1, e2⟩ := o34 u  hu 
        exact lv_tableIn (off := 1237) (tgt := 1270) hx hb (lx_0 (i := 21) (pc := 33) (ins := .tableswitch 1831 0 53 #[231, 264, 317, 350, 393, 456, 479, 492, 515, 538, 561, 594, 627, 650, 673, 706, 719, 752, 785, 818, 831, 864, 887, 910, 923, 972, 995, 1070, 1093, 1132, 1155, 1168, 1191, 1214, 1237, 1250, 1263, 1312, 1335, 1394, 1427, 1450, 1473, 1516, 1559, 1592, 1605, 1654, 1703, 1726, 1759, 1782, 1795, 1808]) (len := 231) rfl) (by decide) (by decide) rfl (by decide) (lc_34 K hi6 g1 g2 hSH e1 (hRel u2 e2) hl hZ ⟨by decide, by decide⟩ (next u2 e2))
      · obtain ⟨r, u1, u2, g1, g2, e1, e2⟩ := o35 u  hu 
        exact lv_tableIn (off := 1250) (tgt := 1283) hx hb (lx_0 (i := 21) (pc := 33) (ins := .tableswitch 1831 0 53 #[231, 264, 317, 350, 393, 456, 479, 492, 515, 538, 561, 594, 627, 650, 673, 706, 719, 752, 785, 818, 831, 864, 887, 910, 923, 972, 995, 1070, 1093, 1132, 1155, 1168, 1191, 1214, 1237, 1250, 1263, 1312, 1335, 1394, 1427, 1450, 1473, 1516, 1559, 1592, 1605, 1654, 1703, 1726, 1759, 1782, 1795, 1808]) (len := 231) rfl) (by decide) (by decide) rfl (by decide) (lc_35 K hi6 g1 g2 hSH e1 (hRel u2 e2) hl hZ ⟨by decide, by decide⟩ (next u2 e2))
      · obtain ⟨r, u1, u2, g1, g2, e1, e2⟩ := o36 u (xs (i + 1)) (if xs (i + 2) = 0 then 0 else 1) hu (b01 _)
        exact lv_tableIn (off := 1263) (tgt := 1296) hx hb (lx_0 (i := 21) (pc := 33) (ins := .tableswitch 1831 0 53 #[231, 264, 317, 350, 393, 456, 479, 492, 515, 538, 561, 594, 627, 650, 673, 706, 719, 752, 785, 818, 831, 864, 887, 910, 923, 972, 995, 1070, 1093, 1132, 1155, 1168, 1191, 1214, 1237, 1250, 1263, 1312, 1335, 1394, 1427, 1450, 1473, 1516, 1559, 1592, 1605, 1654, 1703, 1726, 1759, 1782, 1795, 1808]) (len := 231) rfl) (by decide) (by decide) rfl (by decide) (lc_36 K hi6 g1 g2 hSH e1 (hRel u2 e2) hl hZ ⟨by decide, by decide⟩ (next u2 e2))
      · obtain ⟨r, u1, u2, g1, g2, e1, e2⟩ := o37 u (xs (i + 1)) hu 
        exact lv_tableIn (off := 1312) (tgt := 1345) hx hb (lx_0 (i := 21) (pc := 33) (ins := .tableswitch 1831 0 53 #[231, 264, 317, 350, 393, 456, 479, 492, 515, 538, 561, 594, 627, 650, 673, 706, 719, 752, 785, 818, 831, 864, 887, 910, 923, 972, 995, 1070, 1093, 1132, 1155, 1168, 1191, 1214, 1237, 1250, 1263, 1312, 1335, 1394, 1427, 1450, 1473, 1516, 1559, 1592, 1605, 1654, 1703, 1726, 1759, 1782, 1795, 1808]) (len := 231) rfl) (by decide) (by decide) rfl (by decide) (lc_37 K hi6 g1 g2 hSH e1 (hRel u2 e2) hl hZ ⟨by decide, by decide⟩ (next u2 e2))
      · obtain ⟨r, u1, u2, g1, g2, e1, e2⟩ := o38 u (xs (i + 1)) (xs (i + 2)) (if xs (i + 3) = 0 then 0 else 1) hu (b01 _)
        exact lv_tableIn (off := 1335) (tgt := 1368) hx hb (lx_0 (i := 21) (pc := 33) (ins := .tableswitch 1831 0 53 #[231, 264, 317, 350, 393, 456, 479, 492, 515, 538, 561, 594, 627, 650, 673, 706, 719, 752, 785, 818, 831, 864, 887, 910, 923, 972, 995, 1070, 1093, 1132, 1155, 1168, 1191, 1214, 1237, 1250, 1263, 1312, 1335, 1394, 1427, 1450, 1473, 1516, 1559, 1592, 1605, 1654, 1703, 1726, 1759, 1782, 1795, 1808]) (len := 231) rfl) (by decide) (by decide) rfl (by decide) (lc_38 K hi6 g1 g2 hSH e1 (hRel u2 e2) hl hZ ⟨by decide, by decide⟩ (next u2 e2))
      · obtain ⟨r, u1, u2, g1, g2, e1, e2⟩ := o39 u (xs (i + 1)) (xs (i + 2)) hu 
        exact lv_tableIn (off := 1394) (tgt := 1427) hx hb (lx_0 (i := 21) (pc := 33) (ins := .tableswitch 1831 0 53 #[231, 264, 317, 350, 393, 456, 479, 492, 515, 538, 561, 594, 627, 650, 673, 706, 719, 752, 785, 818, 831, 864, 887, 910, 923, 972, 995, 1070, 1093, 1132, 1155, 1168, 1191, 1214, 1237, 1250, 1263, 1312, 1335, 1394, 1427, 1450, 1473, 1516, 1559, 1592, 1605, 1654, 1703, 1726, 1759, 1782, 1795, 1808]) (len := 231) rfl) (by decide) (by decide) rfl (by decide) (lc_39 K hi6 g1 g2 hSH e1 (hRel u2 e2) hl hZ ⟨by decide, by decide⟩ (next u2 e2))
      · obtain ⟨r, u1, u2, g1, g2, e1, e2⟩ := o40 u (xs (i + 1)) hu 
        exact lv_tableIn (off := 1427) (tgt := 1460) hx hb (lx_0 (i := 21) (pc := 33) (ins := .tableswitch 1831 0 53 #[231, 264, 317, 350, 393, 456, 479, 492, 515, 538, 561, 594, 627, 650, 673, 706, 719, 752, 785, 818, 831, 864, 887, 910, 923, 972, 995, 1070, 1093, 1132, 1155, 1168, 1191, 1214, 1237, 1250, 1263, 1312, 1335, 1394, 1427, 1450, 1473, 1516, 1559, 1592, 1605, 1654, 1703, 1726, 1759, 1782, 1795, 1808]) (len := 231) rfl) (by decide) (by decide) rfl (by decide) (lc_40 K hi6 g1 g2 hSH e1 (hRel u2 e2) hl hZ ⟨by decide, by decide⟩ (next u2 e2))
      · obtain ⟨r, u1, u2, g1, g2, e1, e2⟩ := o41 u (xs (i + 1)) hu 
        exact lv_tableIn (off := 1450) (tgt := 1483) hx hb (lx_0 (i := 21) (pc := 33) (ins := .tableswitch 1831 0 53 #[231, 264, 317, 350, 393, 456, 479, 492, 515, 538, 561, 594, 627, 650, 673, 706, 719, 752, 785, 818, 831, 864, 887, 910, 923, 972, 995, 1070, 1093, 1132, 1155, 1168, 1191, 1214, 1237, 1250, 1263, 1312, 1335, 1394, 1427, 1450, 1473, 1516, 1559, 1592, 1605, 1654, 1703, 1726, 1759, 1782, 1795, 1808]) (len := 231) rfl) (by decide) (by decide) rfl (by decide) (lc_41 K hi6 g1 g2 hSH e1 (hRel u2 e2) hl hZ ⟨by decide, by decide⟩ (next u2 e2))
      · obtain ⟨r, u1, u2, g1, g2, e1, e2⟩ := o42 u (xs (i + 1)) (xs (i + 2)) (xs (i + 3)) hu 
        exact lv_tableIn (off := 1473) (tgt := 1506) hx hb (lx_0 (i := 21) (pc := 33) (ins := .tableswitch 1831 0 53 #[231, 264, 317, 350, 393, 456, 479, 492, 515, 538, 561, 594, 627, 650, 673, 706, 719, 752, 785, 818, 831, 864, 887, 910, 923, 972, 995, 1070, 1093, 1132, 1155, 1168, 1191, 1214, 1237, 1250, 1263, 1312, 1335, 1394, 1427, 1450, 1473, 1516, 1559, 1592, 1605, 1654, 1703, 1726, 1759, 1782, 1795, 1808]) (len := 231) rfl) (by decide) (by decide) rfl (by decide) (lc_42 K hi6 g1 g2 hSH e1 (hRel u2 e2) hl hZ ⟨by decide, by decide⟩ (next u2 e2))
      · obtain ⟨r, u1, u2, g1, g2, e1, e2⟩ := o43 u (xs (i + 1)) (xs (i + 2)) (xs (i + 3)) hu 
        exact lv_tableIn (off := 1516) (tgt := 1549) hx hb (lx_0 (i := 21) (pc := 33) (ins := .tableswitch 1831 0 53 #[231, 264, 317, 350, 393, 456, 479, 492, 515, 538, 561, 594, 627, 650, 673, 706, 719, 752, 785, 818, 831, 864, 887, 910, 923, 972, 995, 1070, 1093, 1132, 1155, 1168, 1191, 1214, 1237, 1250, 1263, 1312, 1335, 1394, 1427, 1450, 1473, 1516, 1559, 1592, 1605, 1654, 1703, 1726, 1759, 1782, 1795, 1808]) (len := 231) rfl) (by decide) (by decide) rfl (by decide) (lc_43 K hi6 g1 g2 hSH e1 (hRel u2 e2) hl hZ ⟨by decide, by decide⟩ (next u2 e2))
      · obtain ⟨r, u1, u2, g1, g2, e1, e2⟩ := o44 u (xs (i + 1)) (xs (i + 2)) hu 
        exact lv_tableIn (off := 1559) (tgt := 1592) hx hb (lx_0 (i := 21) (pc := 33) (ins := .tableswitch 1831 0 53 #[231, 264, 317, 350, 393, 456, 479, 492, 515, 538, 561, 594, 627, 650, 673, 706, 719, 752, 785, 818, 831, 864, 887, 910, 923, 972, 995, 1070, 1093, 1132, 1155, 1168, 1191, 1214, 1237, 1250, 1263, 1312, 1335, 1394, 1427, 1450, 1473, 1516, 1559, 1592, 1605, 1654, 1703, 1726, 1759, 1782, 1795, 1808]) (len := 231) rfl) (by decide) (by decide) rfl (by decide) (lc_44 K hi6 g1 g2 hSH e1 (hRel u2 e2) hl hZ ⟨by decide, by decide⟩ (next u2 e2))
      · obtain ⟨r, u1, u2, g1, g2, e1, e2⟩ := o45 u  hu 
        exact lv_tableIn (off := 1592) (tgt := 1625) hx hb (lx_0 (i := 21) (pc := 33) (ins := .tableswitch 1831 0 53 #[231, 264, 317, 350, 393, 456, 479, 492, 515, 538, 561, 594, 627, 650, 673, 706, 719, 752, 785, 818, 831, 864, 887, 910, 923, 972, 995, 1070, 1093, 1132, 1155, 1168, 1191, 1214, 1237, 1250, 1263, 1312, 1335, 1394, 1427, 1450, 1473, 1516, 1559, 1592, 1605, 1654, 1703, 1726, 1759, 1782, 1795, 1808]) (len := 231) rfl) (by decide) (by decide) rfl (by decide) (lc_45 K hi6 g1 g2 hSH e1 (hRel u2 e2) hl hZ ⟨by decide, by decide⟩ (next u2 e2))
      · obtain ⟨r, u1, u2, g1, g2, e1, e2⟩ := o46 u (xs (i + 1)) (if xs (i + 2) = 0 then 0 else 1) hu (b01 _)
        exact lv_tableIn (off := 1605) (tgt := 1638) hx hb (lx_0 (i := 21) (pc := 33) (ins := .tableswitch 1831 0 53 #[231, 264, 317, 350, 393, 456, 479, 492, 515, 538, 561, 594, 627, 650, 673, 706, 719, 752, 785, 818, 831, 864, 887, 910, 923, 972, 995, 1070, 1093, 1132, 1155, 1168, 1191, 1214, 1237, 1250, 1263, 1312, 1335, 1394, 1427, 1450, 1473, 1516, 1559, 1592, 1605, 1654, 1703, 1726, 1759, 1782, 1795, 1808]) (len := 231) rfl) (by decide) (by decide) rfl (by decide) (lc_46 K hi6 g1 g2 hSH e1 (hRel u2 e2) hl hZ ⟨by decide, by decide⟩ (next u2 e2))
      · obtain ⟨r, u1, u2, g1, g2, e1, e2⟩ := o47 u (xs (i + 1)) (if xs (i + 2) = 0 then 0 else 1) hu (b01 _)
        exact lv_tableIn (off := 1654) (tgt := 1687) hx hb (lx_0 (i := 21) (pc := 33) (ins := .tableswitch 1831 0 53 #[231, 264, 317, 350, 393, 456, 479, 492, 515, 538, 561, 594, 627, 650, 673, 706, 719, 752, 785, 818, 831, 864, 887, 910, 923, 972, 995, 1070, 1093, 1132, 1155, 1168, 1191, 1214, 1237, 1250, 1263, 1312, 1335, 1394, 1427, 1450, 1473, 1516, 1559, 1592, 1605, 1654, 1703, 1726, 1759, 1782, 1795, 1808]) (len := 231) rfl) (by decide) (by decide) rfl (by decide) (lc_47 K hi6 g1 g2 hSH e1 (hRel u2 e2) hl hZ ⟨by decide, by decide⟩ (next u2 e2))
      · obtain ⟨r, u1, u2, g1, g2, e1, e2⟩ := o48 u (xs (i + 1)) hu 
        exact lv_tableIn (off := 1703) (tgt := 1736) hx hb (lx_0 (i := 21) (pc := 33) (ins := .tableswitch 1831 0 53 #[231, 264, 317, 350, 393, 456, 479, 492, 515, 538, 561, 594, 627, 650, 673, 706, 719, 752, 785, 818, 831, 864, 887, 910, 923, 972, 995, 1070, 1093, 1132, 1155, 1168, 1191, 1214, 1237, 1250, 1263, 1312, 1335, 1394, 1427, 1450, 1473, 1516, 1559, 1592, 1605, 1654, 1703, 1726, 1759, 1782, 1795, 1808]) (len := 231) rfl) (by decide) (by decide) rfl (by decide) (lc_48 K hi6 g1 g2 hSH e1 (hRel u2 e2) hl hZ ⟨by decide, by decide⟩ (next u2 e2))
      · obtain ⟨r, u1, u2, g1, g2, e1, e2⟩ := o49 u (xs (i + 1)) (xs (i + 2)) hu 
        exact lv_tableIn (off := 1726) (tgt := 1759) hx hb (lx_0 (i := 21) (pc := 33) (ins := .tableswitch 1831 0 53 #[231, 264, 317, 350, 393, 456, 479, 492, 515, 538, 561, 594, 627, 650, 673, 706, 719, 752, 785, 818, 831, 864, 887, 910, 923, 972, 995, 1070, 1093, 1132, 1155, 1168, 1191, 1214, 1237, 1250, 1263, 1312, 1335, 1394, 1427, 1450, 1473, 1516, 1559, 1592, 1605, 1654, 1703, 1726, 1759, 1782, 1795, 1808]) (len := 231) rfl) (by decide) (by decide) rfl (by decide) (lc_49 K hi6 g1 g2 hSH e1 (hRel u2 e2) hl hZ ⟨by decide, by decide⟩ (next u2 e2))
      · obtain ⟨r, u1, u2, g1, g2, e1, e2⟩ := o50 u (xs (i + 1)) hu 
        exact lv_tableIn (off := 1759) (tgt := 1792) hx hb (lx_0 (i := 21) (pc := 33) (ins := .tableswitch 1831 0 53 #[231, 264, 317, 350, 393, 456, 479, 492, 515, 538, 561, 594, 627, 650, 673, 706, 719, 752, 785, 818, 831, 864, 887, 910, 923, 972, 995, 1070, 1093, 1132, 1155, 1168, 1191, 1214, 1237, 1250, 1263, 1312, 1335, 1394, 1427, 1450, 1473, 1516, 1559, 1592, 1605, 1654, 1703, 1726, 1759, 1782, 1795, 1808]) (len := 231) rfl) (by decide) (by decide) rfl (by decide) (lc_50 K hi6 g1 g2 hSH e1 (hRel u2 e2) hl hZ ⟨by decide, by decide⟩ (next u2 e2))
      · obtain ⟨r, u1, u2, g1, g2, e1, e2⟩ := o51 u  hu 
        exact lv_tableIn (off := 1782) (tgt := 1815) hx hb (lx_0 (i := 21) (pc := 33) (ins := .tableswitch 1831 0 53 #[231, 264, 317, 350, 393, 456, 479, 492, 515, 538, 561, 594, 627, 650, 673, 706, 719, 752, 785, 818, 831, 864, 887, 910, 923, 972, 995, 1070, 1093, 1132, 1155, 1168, 1191, 1214, 1237, 1250, 1263, 1312, 1335, 1394, 1427, 1450, 1473, 1516, 1559, 1592, 1605, 1654, 1703, 1726, 1759, 1782, 1795, 1808]) (len := 231) rfl) (by decide) (by decide) rfl (by decide) (lc_51 K hi6 g1 g2 hSH e1 (hRel u2 e2) hl hZ ⟨by decide, by decide⟩ (next u2 e2))
      · obtain ⟨r, u1, u2, g1, g2, e1, e2⟩ := o52 u  hu 
        exact lv_tableIn (off := 1795) (tgt := 1828) hx hb (lx_0 (i := 21) (pc := 33) (ins := .tableswitch 1831 0 53 #[231, 264, 317, 350, 393, 456, 479, 492, 515, 538, 561, 594, 627, 650, 673, 706, 719, 752, 785, 818, 831, 864, 887, 910, 923, 972, 995, 1070, 1093, 1132, 1155, 1168, 1191, 1214, 1237, 1250, 1263, 1312, 1335, 1394, 1427, 1450, 1473, 1516, 1559, 1592, 1605, 1654, 1703, 1726, 1759, 1782, 1795, 1808]) (len := 231) rfl) (by decide) (by decide) rfl (by decide) (lc_52 K hi6 g1 g2 hSH e1 (hRel u2 e2) hl hZ ⟨by decide, by decide⟩ (next u2 e2))
      · obtain ⟨r, u1, u2, g1, g2, e1, e2⟩ := o53 u (xs (i + 1)) hu 
        exact lv_tableIn (off := 1808) (tgt := 1841) hx hb (lx_0 (i := 21) (pc := 33) (ins := .tableswitch 1831 0 53 #[231, 264, 317, 350, 393, 456, 479, 492, 515, 538, 561, 594, 627, 650, 673, 706, 719, 752, 785, 818, 831, 864, 887, 910, 923, 972, 995, 1070, 1093, 1132, 1155, 1168, 1191, 1214, 1237, 1250, 1263, 1312, 1335, 1394, 1427, 1450, 1473, 1516, 1559, 1592, 1605, 1654, 1703, 1726, 1759, 1782, 1795, 1808]) (len := 231) rfl) (by decide) (by decide) rfl (by decide) (lc_53 K hi6 g1 g2 hSH e1 (hRel u2 e2) hl hZ ⟨by decide, by decide⟩ (next u2 e2))
      · refine lv_tableOut (tgt := 1864) hx hb (lx_0 (i := 21) (pc := 33) (ins := .tableswitch 1831 0 53 #[231, 264, 317, 350, 393, 456, 479, 492, 515, 538, 561, 594, 627, 650, 673, 706, 719, 752, 785, 818, 831, 864, 887, 910, 923, 972, 995, 1070, 1093, 1132, 1155, 1168, 1191, 1214, 1237, 1250, 1263, 1312, 1335, 1394, 1427, 1450, 1473, 1516, 1559, 1592, 1605, 1654, 1703, 1726, 1759, 1782, 1795, 1808]) (len := 231) rfl) (Or.inr ?_) (by decide) (next u hu H locs hZ)
        rw [nI_toInt (by omega)]
        omega

/-- the machine's memory ahead of everything -/
def u00 : sm_M := ([], fun _ _ => none, fun _ _ => 0, fun _ _ => 0)
def ini (Rel : sm_M → Prop) : Prop := ∃ u1 u2 : sm_M, sm_call 200 140 [.ref 0] (sm_nw u00 111 8) = some (none, u1) ∧ u1.1.length = 275 ∧ sm_tot u1 ≤ 16676 ∧ sm_call 200 199 [.ref 275] (sm_nw u1 112 34) = some (none, u2) ∧ Rel u2
set_option maxHeartbeats 4000000 in
theorem lw_init {pc y x h0 : Nat} {p : Program} {l : Launch} {e : Env} {s : State} {m : MethodId} {below : List Frame} {meth : Method} {c : Code} {D : va_G} {dA : Nat → ClassId} {sA : Nat → Nat} {SP : State → Prop} {b L : Nat} {xs : Nat → Int32} {u v : sm_M} {o : Nat} (K : lw_C p l s m meth c D dA sA SP b L xs) (hy : y < sm_ml.length) (hdg : decode code pc = .ok (.invokespecial x, 3)) (hl : sm_w h0 = some (.methodLink R_law x (sm_yn y)))
    (hst : sm_ys y = false) (hni : (sm_yn y).name = "<init>") (hp : sm_yp y = 0) (hrt : sm_yr y = none)
    (hcall : sm_call 200 y [.ref o] u = some (none, v)) (hle : sm_le u v)
    {H : Heap} {locs : List Loc} {cells slots : Nat} {la : Array Slot} (hla : la.size = 4 ∧ lv_wf la) (hZ : sm_Z D dA s.heap.size s 0 0 u H locs cells slots) (hroom : v.1.length ≤ 600000 ∧ sm_tot v ≤ 7302250) {Q : State → Prop}
    (kk : ∀ H1 locs1, sm_Z D dA s.heap.size s 0 0 v H1 locs1 v.1.length (sm_tot v) → W p l e room_1 s m #[Value.ref b] below meth c H1 locs1 v.1.length (sm_tot v) Q (F0 m (pc + 3) la [.ref (s.heap.size + o)])) :
    W p l e room_1 s m #[Value.ref b] below meth c H locs cells slots Q (F0 m pc la [.ref (s.heap.size + o), .ref (s.heap.size + o)]) := by
  obtain ⟨X, hSP, -, -, hS⟩ := K
  obtain ⟨h4, hym⟩ : ∃ h4, sm_mP (sm_ym y) h4 := by
    have e1 : sm_ml[y]? = some (sm_ym y) := by
      unfold sm_ym
      rw [List.getD_eq_getElem?_getD, List.getElem?_eq_getElem hy]
      rfl
    exact sm_all_at sm_mall e1
  refine sm_sized X hZ (fun hsz => ?_)
  have hM := hS y [.ref o] u none v hy hcall
  have z1 := hZ.2.2.1
  have z2 := hZ.2.2.2
  have hrun := sm_call_run (b := 1) (st := [.ref o, .ref o]) (ri := .invokespecial x) (ls := [none, none, none, none]) (la := la) (e := e) (below := below) (meth := meth) X hSP hym hdg (Or.inl hl) (Or.inr (Or.inr ⟨rfl, hst, by rw [hp], hni, hrt, o, [], rfl⟩)) hM ⟨by decide, by decide⟩ rfl rfl ⟨rfl, hla.1, hla.2, fun i v hv => by
    match i, hv with
    | 0, hv => cases hv
    | 1, hv => cases hv
    | 2, hv => cases hv
    | 3, hv => cases hv
    | i + 4, hv => cases hv⟩ hZ hsz ⟨show cells + (v.1.length - u.1.length) ≤ 600000 by have := hle.1; have := hroom.1; omega, show slots + (sm_tot v - sm_tot u) ≤ 7302250 by have := hle.2; have := hroom.2; omega⟩
  have c1 : cells + (v.1.length - u.1.length) = v.1.length := by have := hle.1; omega
  have c2 : slots + (sm_tot v - sm_tot u) = sm_tot v := by have := hle.2; omega
  refine va_callv (a := (List.map (sm_tr (Array.size s.heap) sA) (List.take 1 [Value.ref o, Value.ref o]).reverse).toArray) hrun hZ.2.1 (fun q _ h => h) (fun q h => h) (fun _ t H1 locs1 ht1 hvm _ hB hz1 hk1 hS1 => ?_)
  have hB : va_P D sm_classes (sm_wl dA s.heap.size v) t.heap := hB
  rw [ht1] at hB
  rw [c1, c2]
  exact kk H1 locs1 ⟨hB, hS1, by omega, by omega⟩
set_option maxHeartbeats 4000000 in
theorem lw_begin {p : Program} {l : Launch} {e : Env} {s : State} {m : MethodId} {below : List Frame} {meth : Method} {c : Code} {D : va_G} {dA : Nat → ClassId} {sA : Nat → Nat} {SP : State → Prop} {b L : Nat} {xs : Nat → Int32} (K : lw_C p l s m meth c D dA sA SP b L xs) (Rel : sm_M → Prop) (hRel : ∀ u, Rel u → u.1 = SH) (O : ops Rel) (I0 : ini Rel) (la : Array Slot) (hl : lv_has la 4 [(0, .ref b)]) :
    W p l e room_1 s m #[Value.ref b] below meth c s.heap [] 0 0 (lw_Z below #[Value.ref b] s) (F0 m 0 la []) := by
  obtain ⟨u1, u2, g1, n1, t1, g2, r2⟩ := I0
  have K0 := K
  obtain ⟨X, hSP, ⟨hX, hbl, hL⟩, ⟨hr, hlocks⟩, hS⟩ := K
  have X0 := X
  obtain ⟨hx, hb, -⟩ := X
  have hSH := hRel u2 r2
  have l2 : u2.1.length = 294 := by rw [hSH]; decide +kernel
  have t2 : sm_tot u2 = 16676 := by unfold sm_tot; rw [hSH]; decide +kernel
  have le1 := sm_cl1_mono 3000000 sm_cd sm_yl 200 _ _ _ _ _ g1
  have le2 := sm_cl1_mono 3000000 sm_cd sm_yl 200 _ _ _ _ _ g2
  have hZ0 : sm_Z D dA s.heap.size s 0 0 u00 s.heap [] 0 0 := ⟨fun k q h => by simp [sm_wl, u00] at h, va_S.rf, rfl, rfl⟩
  refine sm_ok_new (a := 111) (h0 := 1022) X0 (lx_0 (i := 0) (pc := 0) (ins := .new 7) (len := 3) rfl) ⟨by decide, by decide⟩ rfl hZ0 (by decide) (by decide) (fun H hZ => ?_)
  refine lv_dup hx hb (lx_0 (i := 1) (pc := 3) (ins := .dup) (len := 1) rfl) rfl ?_
  refine lw_init (y := 140) (h0 := 1024) (o := 0) K0 (by rw [sm_ml_n]; decide) (lx_0 (i := 2) (pc := 4) (ins := .invokespecial 9) (len := 3) rfl) rfl rfl rfl rfl rfl g1 le1 ⟨hl.1, hl.2.1⟩ hZ ⟨by rw [n1]; decide, by omega⟩ (fun H locs hZ => ?_)
  refine lv_astore_n (lv' := [(1, .ref (s.heap.size + 0)), (0, .ref b)]) hx hb (lx_0 (i := 3) (pc := 7) (ins := .astore_n 1) (len := 1) rfl) rfl hl (by decide) rfl (fun la hl => ?_)
  have t3 := sm_nw_tot u1 112 34
  have n3 : (sm_nw u1 112 34).1.length = 276 := by simp [sm_nw, n1]
  refine sm_ok_new (a := 112) (h0 := 6081) X0 (lx_0 (i := 4) (pc := 8) (ins := .new 10) (len := 3) rfl) ⟨by decide, by decide⟩ rfl hZ (by rw [n1]; decide) (by show sm_tot u1 + 34 ≤ 7302250; omega) (fun H hZ => ?_)
  refine lv_dup hx hb (lx_0 (i := 5) (pc := 11) (ins := .dup) (len := 1) rfl) rfl ?_
  rw [n1] at hZ ⊢
  refine lw_init (y := 199) (h0 := 6083) (o := 275) K0 (by rw [sm_ml_n]; decide) (lx_0 (i := 6) (pc := 12) (ins := .invokespecial 12) (len := 3) rfl) rfl rfl rfl rfl rfl g2 le2 ⟨hl.1, hl.2.1⟩ hZ ⟨by rw [l2]; decide, by rw [t2]; decide⟩ (fun H locs hZ => ?_)
  refine lv_astore_n (lv' := [(2, .ref (s.heap.size + 275)), (1, .ref (s.heap.size + 0)), (0, .ref b)]) hx hb (lx_0 (i := 7) (pc := 15) (ins := .astore_n 2) (len := 1) rfl) rfl hl (by decide) rfl (fun la hl => ?_)
  refine lv_iconst (v := nI 0) hx hb (lx_0 (i := 8) (pc := 16) (ins := .iconst 0) (len := 1) rfl) rfl ?_
  refine lv_istore_n (lv' := [(3, .int (nI 0)), (2, .ref (s.heap.size + 275)), (1, .ref (s.heap.size + 0)), (0, .ref b)]) hx hb (lx_0 (i := 9) (pc := 17) (ins := .istore_n 3) (len := 1) rfl) rfl hl (by decide) rfl (fun la hl => ?_)
  rw [l2, t2] at hZ ⊢
  exact lw_loop K0 Rel hRel O (L + 1) 0 (Nat.zero_le L) (by omega) u2 r2 H locs la (lv_sub hl [3, 2, 1, 0] rfl) hZ

