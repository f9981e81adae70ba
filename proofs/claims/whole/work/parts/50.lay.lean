/-! where everything lies (by wip/whole/mk_base.py) -/
def SH : List (Nat × Nat) := [(111, 8), (104, 13), (100, 7), (1, 6), (1, 10), (103, 3), (4, 30), (100, 7), (1, 6), (1, 10), (100, 7), (1, 6), (1, 10), (100, 7), (1, 6), (1, 10), (100, 7), (1, 6), (1, 10), (100, 7), (1, 6), (1, 10), (100, 7), (1, 6), (1, 10), (100, 7), (1, 6), (1, 10), (100, 7), (1, 6), (1, 10), (100, 7), (1, 6), (1, 10), (100, 7), (1, 6), (1, 10), (100, 7), (1, 6), (1, 10), (100, 7), (1, 6), (1, 10), (100, 7), (1, 6), (1, 10), (100, 7), (1, 6), (1, 10), (100, 7), (1, 6), (1, 10), (100, 7), (1, 6), (1, 10), (100, 7), (1, 6), (1, 10), (100, 7), (1, 6), (1, 10), (100, 7), (1, 6), (1, 10), (100, 7), (1, 6), (1, 10), (100, 7), (1, 6), (1, 10), (100, 7), (1, 6), (1, 10), (100, 7), (1, 6), (1, 10), (100, 7), (1, 6), (1, 10), (100, 7), (1, 6), (1, 10), (100, 7), (1, 6), (1, 10), (100, 7), (1, 6), (1, 10), (100, 7), (1, 6), (1, 10), (100, 7), (1, 6), (1, 10), (100, 7), (1, 6), (1, 10), (1, 8), (5, 10), (1, 6), (1, 8), (1, 8), (1, 8), (101, 4), (101, 4), (101, 4), (101, 4), (101, 4), (101, 4), (101, 4), (101, 4), (101, 4), (101, 4), (101, 4), (104, 13), (100, 7), (1, 6), (1, 10), (103, 3), (4, 30), (100, 7), (1, 6), (1, 10), (100, 7), (1, 6), (1, 10), (100, 7), (1, 6), (1, 10), (100, 7), (1, 6), (1, 10), (100, 7), (1, 6), (1, 10), (100, 7), (1, 6), (1, 10), (100, 7), (1, 6), (1, 10), (100, 7), (1, 6), (1, 10), (100, 7), (1, 6), (1, 10), (100, 7), (1, 6), (1, 10), (100, 7), (1, 6), (1, 10), (100, 7), (1, 6), (1, 10), (100, 7), (1, 6), (1, 10), (100, 7), (1, 6), (1, 10), (100, 7), (1, 6), (1, 10), (100, 7), (1, 6), (1, 10), (100, 7), (1, 6), (1, 10), (100, 7), (1, 6), (1, 10), (100, 7), (1, 6), (1, 10), (100, 7), (1, 6), (1, 10), (100, 7), (1, 6), (1, 10), (100, 7), (1, 6), (1, 10), (100, 7), (1, 6), (1, 10), (100, 7), (1, 6), (1, 10), (100, 7), (1, 6), (1, 10), (100, 7), (1, 6), (1, 10), (100, 7), (1, 6), (1, 10), (100, 7), (1, 6), (1, 10), (100, 7), (1, 6), (1, 10), (100, 7), (1, 6), (1, 10), (1, 8), (5, 10), (1, 6), (1, 8), (1, 8), (1, 8), (101, 4), (101, 4), (101, 4), (101, 4), (101, 4), (101, 4), (101, 4), (101, 4), (101, 4), (101, 4), (101, 4), (105, 6), (1, 300), (1, 301), (1, 301), (1, 301), (106, 5), (107, 4), (6, 4), (1, 300), (102, 11), (1, 24), (1, 24), (1, 24), (1, 300), (1, 300), (1, 256), (102, 11), (1, 24), (1, 24), (1, 24), (1, 300), (1, 300), (1, 256), (102, 11), (1, 24), (1, 24), (1, 24), (1, 300), (1, 300), (1, 256), (102, 11), (1, 24), (1, 24), (1, 24), (1, 300), (1, 300), (1, 256), (108, 5), (1, 256), (1, 256), (1, 256), (109, 4), (1, 256), (1, 256), (110, 5), (1, 1024), (1, 10), (1, 6), (112, 34), (1, 992), (1, 992), (1, 2820), (1, 300), (1, 160), (1, 9), (3, 330), (2, 330), (1, 256), (2, 256), (1, 256), (1, 256), (1, 256), (1, 10), (1, 10), (1, 10), (1, 7), (2, 70)]
def RFt : List (List (Option Nat)) := [[some 1, some 114, some 227, some 232, some 233, some 264, some 268, some 271], [some 2, some 5, some 97, some 98, some 99, some 100, some 101, some 102, some 103], [none, none, none, none, none, some 3, some 4], [], [], [some 6], [some 7, some 10, some 13, some 16, some 19, some 22, some 25, some 28, some 31, some 34, some 37, some 40, some 43, some 46, some 49, some 52, some 55, some 58, some 61, some 64, some 67, some 70, some 73, some 76, some 79, some 82, some 85, some 88, some 91, some 94], [none, none, none, none, none, some 8, some 9], [], [], [none, none, none, none, none, some 11, some 12], [], [], [none, none, none, none, none, some 14, some 15], [], [], [none, none, none, none, none, some 17, some 18], [], [], [none, none, none, none, none, some 20, some 21], [], [], [none, none, none, none, none, some 23, some 24], [], [], [none, none, none, none, none, some 26, some 27], [], [], [none, none, none, none, none, some 29, some 30], [], [], [none, none, none, none, none, some 32, some 33], [], [], [none, none, none, none, none, some 35, some 36], [], [], [none, none, none, none, none, some 38, some 39], [], [], [none, none, none, none, none, some 41, some 42], [], [], [none, none, none, none, none, some 44, some 45], [], [], [none, none, none, none, none, some 47, some 48], [], [], [none, none, none, none, none, some 50, some 51], [], [], [none, none, none, none, none, some 53, some 54], [], [], [none, none, none, none, none, some 56, some 57], [], [], [none, none, none, none, none, some 59, some 60], [], [], [none, none, none, none, none, some 62, some 63], [], [], [none, none, none, none, none, some 65, some 66], [], [], [none, none, none, none, none, some 68, some 69], [], [], [none, none, none, none, none, some 71, some 72], [], [], [none, none, none, none, none, some 74, some 75], [], [], [none, none, none, none, none, some 77, some 78], [], [], [none, none, none, none, none, some 80, some 81], [], [], [none, none, none, none, none, some 83, some 84], [], [], [none, none, none, none, none, some 86, some 87], [], [], [none, none, none, none, none, some 89, some 90], [], [], [none, none, none, none, none, some 92, some 93], [], [], [none, none, none, none, none, some 95, some 96], [], [], [], [some 104, some 105, some 106, some 107, some 108, some 109, some 110, some 111, some 112, some 113], [], [], [], [], [], [], [], [], [], [], [], [], [], [], [], [some 115, some 118, some 210, some 211, some 212, some 213, some 214, some 215, some 216], [none, none, none, none, none, some 116, some 117], [], [], [some 119], [some 120, some 123, some 126, some 129, some 132, some 135, some 138, some 141, some 144, some 147, some 150, some 153, some 156, some 159, some 162, some 165, some 168, some 171, some 174, some 177, some 180, some 183, some 186, some 189, some 192, some 195, some 198, some 201, some 204, some 207], [none, none, none, none, none, some 121, some 122], [], [], [none, none, none, none, none, some 124, some 125], [], [], [none, none, none, none, none, some 127, some 128], [], [], [none, none, none, none, none, some 130, some 131], [], [], [none, none, none, none, none, some 133, some 134], [], [], [none, none, none, none, none, some 136, some 137], [], [], [none, none, none, none, none, some 139, some 140], [], [], [none, none, none, none, none, some 142, some 143], [], [], [none, none, none, none, none, some 145, some 146], [], [], [none, none, none, none, none, some 148, some 149], [], [], [none, none, none, none, none, some 151, some 152], [], [], [none, none, none, none, none, some 154, some 155], [], [], [none, none, none, none, none, some 157, some 158], [], [], [none, none, none, none, none, some 160, some 161], [], [], [none, none, none, none, none, some 163, some 164], [], [], [none, none, none, none, none, some 166, some 167], [], [], [none, none, none, none, none, some 169, some 170], [], [], [none, none, none, none, none, some 172, some 173], [], [], [none, none, none, none, none, some 175, some 176], [], [], [none, none, none, none, none, some 178, some 179], [], [], [none, none, none, none, none, some 181, some 182], [], [], [none, none, none, none, none, some 184, some 185], [], [], [none, none, none, none, none, some 187, some 188], [], [], [none, none, none, none, none, some 190, some 191], [], [], [none, none, none, none, none, some 193, some 194], [], [], [none, none, none, none, none, some 196, some 197], [], [], [none, none, none, none, none, some 199, some 200], [], [], [none, none, none, none, none, some 202, some 203], [], [], [none, none, none, none, none, some 205, some 206], [], [], [none, none, none, none, none, some 208, some 209], [], [], [], [some 217, some 218, some 219, some 220, some 221, some 222, some 223, some 224, some 225, some 226], [], [], [], [], [], [], [], [], [], [], [], [], [], [], [], [some 228, some 229, some 230, some 231], [], [], [], [], [some 227], [some 1, some 234, some 235], [some 236, some 243, some 250, some 257], [], [some 237, some 238, some 239, some 240, some 241, some 242], [], [], [], [], [], [], [some 244, some 245, some 246, some 247, some 248, some 249], [], [], [], [], [], [], [some 251, some 252, some 253, some 254, some 255, some 256], [], [], [], [], [], [], [some 258, some 259, some 260, some 261, some 262, some 263], [], [], [], [], [], [], [some 1, some 233, some 265, some 266, some 267], [], [], [], [some 1, some 233, some 269, some 270], [], [], [some 1, some 233, some 272, some 273, some 274], [], [], [], [some 276, some 277, some 278, some 279, none, none, none, none, none, none, none, none, none, none, none, some 280, some 281, none, none, none, none, none, some 282, some 283, some 284, some 285, some 286, some 287, some 288, some 289, some 290, some 291, some 292, some 293], [], [], [], [], [], [], [], [], [], [], [], [], [], [], [], [], [], []]
def RF (i k : Nat) : Option Nat := (RFt.getD i []).getD k none
/-- the shape of the world: everything but the reader's target is fixed -/
def Ly (u : sm_M) : Prop := u.1 = SH ∧ ∀ i k a : Nat, (i = 232 → k ≠ 1) → RF i k = some a → sm_Rf u i k = some a
theorem Ly.tg {u : sm_M} (h : Ly u) {i t : Nat} (e : (SH.getD i (0, 0)).1 = t) : sm_tg u i = t := by unfold sm_tg; rw [h.1]; exact e
theorem Ly.ln {u : sm_M} (h : Ly u) {i n : Nat} (e : (SH.getD i (0, 0)).2 = n) : sm_ln u i = n := by unfold sm_ln; rw [h.1]; exact e
theorem Ly.rf {u : sm_M} (h : Ly u) {i k a : Nat} (hn : i = 232 → k ≠ 1) (e : RF i k = some a) : sm_Rf u i k = some a := h.2 i k a hn e
theorem yt_0 {u : sm_M} (h : Ly u) : sm_tg u 0 = 111 := h.tg rfl
theorem yt_1 {u : sm_M} (h : Ly u) : sm_tg u 1 = 104 := h.tg rfl
theorem yt_2 {u : sm_M} (h : Ly u) : sm_tg u 2 = 100 := h.tg rfl
theorem yt_3 {u : sm_M} (h : Ly u) : sm_tg u 3 = 1 := h.tg rfl
theorem yl_3 {u : sm_M} (h : Ly u) : sm_ln u 3 = 6 := h.ln rfl
theorem yt_4 {u : sm_M} (h : Ly u) : sm_tg u 4 = 1 := h.tg rfl
theorem yl_4 {u : sm_M} (h : Ly u) : sm_ln u 4 = 10 := h.ln rfl
theorem yt_5 {u : sm_M} (h : Ly u) : sm_tg u 5 = 103 := h.tg rfl
theorem yt_6 {u : sm_M} (h : Ly u) : sm_tg u 6 = 4 := h.tg rfl
theorem yl_6 {u : sm_M} (h : Ly u) : sm_ln u 6 = 30 := h.ln rfl
theorem yt_97 {u : sm_M} (h : Ly u) : sm_tg u 97 = 1 := h.tg rfl
theorem yl_97 {u : sm_M} (h : Ly u) : sm_ln u 97 = 8 := h.ln rfl
theorem yt_98 {u : sm_M} (h : Ly u) : sm_tg u 98 = 5 := h.tg rfl
theorem yl_98 {u : sm_M} (h : Ly u) : sm_ln u 98 = 10 := h.ln rfl
theorem yt_99 {u : sm_M} (h : Ly u) : sm_tg u 99 = 1 := h.tg rfl
theorem yl_99 {u : sm_M} (h : Ly u) : sm_ln u 99 = 6 := h.ln rfl
theorem yt_100 {u : sm_M} (h : Ly u) : sm_tg u 100 = 1 := h.tg rfl
theorem yl_100 {u : sm_M} (h : Ly u) : sm_ln u 100 = 8 := h.ln rfl
theorem yt_101 {u : sm_M} (h : Ly u) : sm_tg u 101 = 1 := h.tg rfl
theorem yl_101 {u : sm_M} (h : Ly u) : sm_ln u 101 = 8 := h.ln rfl
theorem yt_102 {u : sm_M} (h : Ly u) : sm_tg u 102 = 1 := h.tg rfl
theorem yl_102 {u : sm_M} (h : Ly u) : sm_ln u 102 = 8 := h.ln rfl
theorem yt_103 {u : sm_M} (h : Ly u) : sm_tg u 103 = 101 := h.tg rfl
theorem yt_114 {u : sm_M} (h : Ly u) : sm_tg u 114 = 104 := h.tg rfl
theorem yt_115 {u : sm_M} (h : Ly u) : sm_tg u 115 = 100 := h.tg rfl
theorem yt_116 {u : sm_M} (h : Ly u) : sm_tg u 116 = 1 := h.tg rfl
theorem yl_116 {u : sm_M} (h : Ly u) : sm_ln u 116 = 6 := h.ln rfl
theorem yt_117 {u : sm_M} (h : Ly u) : sm_tg u 117 = 1 := h.tg rfl
theorem yl_117 {u : sm_M} (h : Ly u) : sm_ln u 117 = 10 := h.ln rfl
theorem yt_118 {u : sm_M} (h : Ly u) : sm_tg u 118 = 103 := h.tg rfl
theorem yt_119 {u : sm_M} (h : Ly u) : sm_tg u 119 = 4 := h.tg rfl
theorem yl_119 {u : sm_M} (h : Ly u) : sm_ln u 119 = 30 := h.ln rfl
theorem yt_210 {u : sm_M} (h : Ly u) : sm_tg u 210 = 1 := h.tg rfl
theorem yl_210 {u : sm_M} (h : Ly u) : sm_ln u 210 = 8 := h.ln rfl
theorem yt_211 {u : sm_M} (h : Ly u) : sm_tg u 211 = 5 := h.tg rfl
theorem yl_211 {u : sm_M} (h : Ly u) : sm_ln u 211 = 10 := h.ln rfl
theorem yt_212 {u : sm_M} (h : Ly u) : sm_tg u 212 = 1 := h.tg rfl
theorem yl_212 {u : sm_M} (h : Ly u) : sm_ln u 212 = 6 := h.ln rfl
theorem yt_213 {u : sm_M} (h : Ly u) : sm_tg u 213 = 1 := h.tg rfl
theorem yl_213 {u : sm_M} (h : Ly u) : sm_ln u 213 = 8 := h.ln rfl
theorem yt_214 {u : sm_M} (h : Ly u) : sm_tg u 214 = 1 := h.tg rfl
theorem yl_214 {u : sm_M} (h : Ly u) : sm_ln u 214 = 8 := h.ln rfl
theorem yt_215 {u : sm_M} (h : Ly u) : sm_tg u 215 = 1 := h.tg rfl
theorem yl_215 {u : sm_M} (h : Ly u) : sm_ln u 215 = 8 := h.ln rfl
theorem yt_216 {u : sm_M} (h : Ly u) : sm_tg u 216 = 101 := h.tg rfl
theorem yt_227 {u : sm_M} (h : Ly u) : sm_tg u 227 = 105 := h.tg rfl
theorem yt_228 {u : sm_M} (h : Ly u) : sm_tg u 228 = 1 := h.tg rfl
theorem yl_228 {u : sm_M} (h : Ly u) : sm_ln u 228 = 300 := h.ln rfl
theorem yt_229 {u : sm_M} (h : Ly u) : sm_tg u 229 = 1 := h.tg rfl
theorem yl_229 {u : sm_M} (h : Ly u) : sm_ln u 229 = 301 := h.ln rfl
theorem yt_230 {u : sm_M} (h : Ly u) : sm_tg u 230 = 1 := h.tg rfl
theorem yl_230 {u : sm_M} (h : Ly u) : sm_ln u 230 = 301 := h.ln rfl
theorem yt_231 {u : sm_M} (h : Ly u) : sm_tg u 231 = 1 := h.tg rfl
theorem yl_231 {u : sm_M} (h : Ly u) : sm_ln u 231 = 301 := h.ln rfl
theorem yt_232 {u : sm_M} (h : Ly u) : sm_tg u 232 = 106 := h.tg rfl
theorem yt_233 {u : sm_M} (h : Ly u) : sm_tg u 233 = 107 := h.tg rfl
theorem yt_234 {u : sm_M} (h : Ly u) : sm_tg u 234 = 6 := h.tg rfl
theorem yl_234 {u : sm_M} (h : Ly u) : sm_ln u 234 = 4 := h.ln rfl
theorem yt_235 {u : sm_M} (h : Ly u) : sm_tg u 235 = 1 := h.tg rfl
theorem yl_235 {u : sm_M} (h : Ly u) : sm_ln u 235 = 300 := h.ln rfl
theorem yt_236 {u : sm_M} (h : Ly u) : sm_tg u 236 = 102 := h.tg rfl
theorem yt_237 {u : sm_M} (h : Ly u) : sm_tg u 237 = 1 := h.tg rfl
theorem yl_237 {u : sm_M} (h : Ly u) : sm_ln u 237 = 24 := h.ln rfl
theorem yt_238 {u : sm_M} (h : Ly u) : sm_tg u 238 = 1 := h.tg rfl
theorem yl_238 {u : sm_M} (h : Ly u) : sm_ln u 238 = 24 := h.ln rfl
theorem yt_239 {u : sm_M} (h : Ly u) : sm_tg u 239 = 1 := h.tg rfl
theorem yl_239 {u : sm_M} (h : Ly u) : sm_ln u 239 = 24 := h.ln rfl
theorem yt_240 {u : sm_M} (h : Ly u) : sm_tg u 240 = 1 := h.tg rfl
theorem yl_240 {u : sm_M} (h : Ly u) : sm_ln u 240 = 300 := h.ln rfl
theorem yt_241 {u : sm_M} (h : Ly u) : sm_tg u 241 = 1 := h.tg rfl
theorem yl_241 {u : sm_M} (h : Ly u) : sm_ln u 241 = 300 := h.ln rfl
theorem yt_242 {u : sm_M} (h : Ly u) : sm_tg u 242 = 1 := h.tg rfl
theorem yl_242 {u : sm_M} (h : Ly u) : sm_ln u 242 = 256 := h.ln rfl
theorem yt_243 {u : sm_M} (h : Ly u) : sm_tg u 243 = 102 := h.tg rfl
theorem yt_244 {u : sm_M} (h : Ly u) : sm_tg u 244 = 1 := h.tg rfl
theorem yl_244 {u : sm_M} (h : Ly u) : sm_ln u 244 = 24 := h.ln rfl
theorem yt_245 {u : sm_M} (h : Ly u) : sm_tg u 245 = 1 := h.tg rfl
theorem yl_245 {u : sm_M} (h : Ly u) : sm_ln u 245 = 24 := h.ln rfl
theorem yt_246 {u : sm_M} (h : Ly u) : sm_tg u 246 = 1 := h.tg rfl
theorem yl_246 {u : sm_M} (h : Ly u) : sm_ln u 246 = 24 := h.ln rfl
theorem yt_247 {u : sm_M} (h : Ly u) : sm_tg u 247 = 1 := h.tg rfl
theorem yl_247 {u : sm_M} (h : Ly u) : sm_ln u 247 = 300 := h.ln rfl
theorem yt_248 {u : sm_M} (h : Ly u) : sm_tg u 248 = 1 := h.tg rfl
theorem yl_248 {u : sm_M} (h : Ly u) : sm_ln u 248 = 300 := h.ln rfl
theorem yt_249 {u : sm_M} (h : Ly u) : sm_tg u 249 = 1 := h.tg rfl
theorem yl_249 {u : sm_M} (h : Ly u) : sm_ln u 249 = 256 := h.ln rfl
theorem yt_250 {u : sm_M} (h : Ly u) : sm_tg u 250 = 102 := h.tg rfl
theorem yt_251 {u : sm_M} (h : Ly u) : sm_tg u 251 = 1 := h.tg rfl
theorem yl_251 {u : sm_M} (h : Ly u) : sm_ln u 251 = 24 := h.ln rfl
theorem yt_252 {u : sm_M} (h : Ly u) : sm_tg u 252 = 1 := h.tg rfl
theorem yl_252 {u : sm_M} (h : Ly u) : sm_ln u 252 = 24 := h.ln rfl
theorem yt_253 {u : sm_M} (h : Ly u) : sm_tg u 253 = 1 := h.tg rfl
theorem yl_253 {u : sm_M} (h : Ly u) : sm_ln u 253 = 24 := h.ln rfl
theorem yt_254 {u : sm_M} (h : Ly u) : sm_tg u 254 = 1 := h.tg rfl
theorem yl_254 {u : sm_M} (h : Ly u) : sm_ln u 254 = 300 := h.ln rfl
theorem yt_255 {u : sm_M} (h : Ly u) : sm_tg u 255 = 1 := h.tg rfl
theorem yl_255 {u : sm_M} (h : Ly u) : sm_ln u 255 = 300 := h.ln rfl
theorem yt_256 {u : sm_M} (h : Ly u) : sm_tg u 256 = 1 := h.tg rfl
theorem yl_256 {u : sm_M} (h : Ly u) : sm_ln u 256 = 256 := h.ln rfl
theorem yt_257 {u : sm_M} (h : Ly u) : sm_tg u 257 = 102 := h.tg rfl
theorem yt_258 {u : sm_M} (h : Ly u) : sm_tg u 258 = 1 := h.tg rfl
theorem yl_258 {u : sm_M} (h : Ly u) : sm_ln u 258 = 24 := h.ln rfl
theorem yt_259 {u : sm_M} (h : Ly u) : sm_tg u 259 = 1 := h.tg rfl
theorem yl_259 {u : sm_M} (h : Ly u) : sm_ln u 259 = 24 := h.ln rfl
theorem yt_260 {u : sm_M} (h : Ly u) : sm_tg u 260 = 1 := h.tg rfl
theorem yl_260 {u : sm_M} (h : Ly u) : sm_ln u 260 = 24 := h.ln rfl
theorem yt_261 {u : sm_M} (h : Ly u) : sm_tg u 261 = 1 := h.tg rfl
theorem yl_261 {u : sm_M} (h : Ly u) : sm_ln u 261 = 300 := h.ln rfl
theorem yt_262 {u : sm_M} (h : Ly u) : sm_tg u 262 = 1 := h.tg rfl
theorem yl_262 {u : sm_M} (h : Ly u) : sm_ln u 262 = 300 := h.ln rfl
theorem yt_263 {u : sm_M} (h : Ly u) : sm_tg u 263 = 1 := h.tg rfl
theorem yl_263 {u : sm_M} (h : Ly u) : sm_ln u 263 = 256 := h.ln rfl
theorem yt_264 {u : sm_M} (h : Ly u) : sm_tg u 264 = 108 := h.tg rfl
theorem yt_265 {u : sm_M} (h : Ly u) : sm_tg u 265 = 1 := h.tg rfl
theorem yl_265 {u : sm_M} (h : Ly u) : sm_ln u 265 = 256 := h.ln rfl
theorem yt_266 {u : sm_M} (h : Ly u) : sm_tg u 266 = 1 := h.tg rfl
theorem yl_266 {u : sm_M} (h : Ly u) : sm_ln u 266 = 256 := h.ln rfl
theorem yt_267 {u : sm_M} (h : Ly u) : sm_tg u 267 = 1 := h.tg rfl
theorem yl_267 {u : sm_M} (h : Ly u) : sm_ln u 267 = 256 := h.ln rfl
theorem yt_268 {u : sm_M} (h : Ly u) : sm_tg u 268 = 109 := h.tg rfl
theorem yt_269 {u : sm_M} (h : Ly u) : sm_tg u 269 = 1 := h.tg rfl
theorem yl_269 {u : sm_M} (h : Ly u) : sm_ln u 269 = 256 := h.ln rfl
theorem yt_270 {u : sm_M} (h : Ly u) : sm_tg u 270 = 1 := h.tg rfl
theorem yl_270 {u : sm_M} (h : Ly u) : sm_ln u 270 = 256 := h.ln rfl
theorem yt_271 {u : sm_M} (h : Ly u) : sm_tg u 271 = 110 := h.tg rfl
theorem yt_272 {u : sm_M} (h : Ly u) : sm_tg u 272 = 1 := h.tg rfl
theorem yl_272 {u : sm_M} (h : Ly u) : sm_ln u 272 = 1024 := h.ln rfl
theorem yt_273 {u : sm_M} (h : Ly u) : sm_tg u 273 = 1 := h.tg rfl
theorem yl_273 {u : sm_M} (h : Ly u) : sm_ln u 273 = 10 := h.ln rfl
theorem yt_274 {u : sm_M} (h : Ly u) : sm_tg u 274 = 1 := h.tg rfl
theorem yl_274 {u : sm_M} (h : Ly u) : sm_ln u 274 = 6 := h.ln rfl
theorem yt_275 {u : sm_M} (h : Ly u) : sm_tg u 275 = 112 := h.tg rfl
theorem yt_276 {u : sm_M} (h : Ly u) : sm_tg u 276 = 1 := h.tg rfl
theorem yl_276 {u : sm_M} (h : Ly u) : sm_ln u 276 = 992 := h.ln rfl
theorem yt_277 {u : sm_M} (h : Ly u) : sm_tg u 277 = 1 := h.tg rfl
theorem yl_277 {u : sm_M} (h : Ly u) : sm_ln u 277 = 992 := h.ln rfl
theorem yt_278 {u : sm_M} (h : Ly u) : sm_tg u 278 = 1 := h.tg rfl
theorem yl_278 {u : sm_M} (h : Ly u) : sm_ln u 278 = 2820 := h.ln rfl
theorem yt_279 {u : sm_M} (h : Ly u) : sm_tg u 279 = 1 := h.tg rfl
theorem yl_279 {u : sm_M} (h : Ly u) : sm_ln u 279 = 300 := h.ln rfl
theorem yt_280 {u : sm_M} (h : Ly u) : sm_tg u 280 = 1 := h.tg rfl
theorem yl_280 {u : sm_M} (h : Ly u) : sm_ln u 280 = 160 := h.ln rfl
theorem yt_281 {u : sm_M} (h : Ly u) : sm_tg u 281 = 1 := h.tg rfl
theorem yl_281 {u : sm_M} (h : Ly u) : sm_ln u 281 = 9 := h.ln rfl
theorem yt_282 {u : sm_M} (h : Ly u) : sm_tg u 282 = 3 := h.tg rfl
theorem yl_282 {u : sm_M} (h : Ly u) : sm_ln u 282 = 330 := h.ln rfl
theorem yt_283 {u : sm_M} (h : Ly u) : sm_tg u 283 = 2 := h.tg rfl
theorem yl_283 {u : sm_M} (h : Ly u) : sm_ln u 283 = 330 := h.ln rfl
theorem yt_284 {u : sm_M} (h : Ly u) : sm_tg u 284 = 1 := h.tg rfl
theorem yl_284 {u : sm_M} (h : Ly u) : sm_ln u 284 = 256 := h.ln rfl
theorem yt_285 {u : sm_M} (h : Ly u) : sm_tg u 285 = 2 := h.tg rfl
theorem yl_285 {u : sm_M} (h : Ly u) : sm_ln u 285 = 256 := h.ln rfl
theorem yt_286 {u : sm_M} (h : Ly u) : sm_tg u 286 = 1 := h.tg rfl
theorem yl_286 {u : sm_M} (h : Ly u) : sm_ln u 286 = 256 := h.ln rfl
theorem yt_287 {u : sm_M} (h : Ly u) : sm_tg u 287 = 1 := h.tg rfl
theorem yl_287 {u : sm_M} (h : Ly u) : sm_ln u 287 = 256 := h.ln rfl
theorem yt_288 {u : sm_M} (h : Ly u) : sm_tg u 288 = 1 := h.tg rfl
theorem yl_288 {u : sm_M} (h : Ly u) : sm_ln u 288 = 256 := h.ln rfl
theorem yt_289 {u : sm_M} (h : Ly u) : sm_tg u 289 = 1 := h.tg rfl
theorem yl_289 {u : sm_M} (h : Ly u) : sm_ln u 289 = 10 := h.ln rfl
theorem yt_290 {u : sm_M} (h : Ly u) : sm_tg u 290 = 1 := h.tg rfl
theorem yl_290 {u : sm_M} (h : Ly u) : sm_ln u 290 = 10 := h.ln rfl
theorem yt_291 {u : sm_M} (h : Ly u) : sm_tg u 291 = 1 := h.tg rfl
theorem yl_291 {u : sm_M} (h : Ly u) : sm_ln u 291 = 10 := h.ln rfl
theorem yt_292 {u : sm_M} (h : Ly u) : sm_tg u 292 = 1 := h.tg rfl
theorem yl_292 {u : sm_M} (h : Ly u) : sm_ln u 292 = 7 := h.ln rfl
theorem yt_293 {u : sm_M} (h : Ly u) : sm_tg u 293 = 2 := h.tg rfl
theorem yl_293 {u : sm_M} (h : Ly u) : sm_ln u 293 = 70 := h.ln rfl
theorem yr_0_0 {u : sm_M} (h : Ly u) : sm_Rf u 0 0 = some 1 := h.rf (by decide) rfl
theorem yr_0_1 {u : sm_M} (h : Ly u) : sm_Rf u 0 1 = some 114 := h.rf (by decide) rfl
theorem yr_0_2 {u : sm_M} (h : Ly u) : sm_Rf u 0 2 = some 227 := h.rf (by decide) rfl
theorem yr_0_3 {u : sm_M} (h : Ly u) : sm_Rf u 0 3 = some 232 := h.rf (by decide) rfl
theorem yr_0_4 {u : sm_M} (h : Ly u) : sm_Rf u 0 4 = some 233 := h.rf (by decide) rfl
theorem yr_0_5 {u : sm_M} (h : Ly u) : sm_Rf u 0 5 = some 264 := h.rf (by decide) rfl
theorem yr_0_6 {u : sm_M} (h : Ly u) : sm_Rf u 0 6 = some 268 := h.rf (by decide) rfl
theorem yr_0_7 {u : sm_M} (h : Ly u) : sm_Rf u 0 7 = some 271 := h.rf (by decide) rfl
theorem yr_1_0 {u : sm_M} (h : Ly u) : sm_Rf u 1 0 = some 2 := h.rf (by decide) rfl
theorem yr_1_1 {u : sm_M} (h : Ly u) : sm_Rf u 1 1 = some 5 := h.rf (by decide) rfl
theorem yr_1_2 {u : sm_M} (h : Ly u) : sm_Rf u 1 2 = some 97 := h.rf (by decide) rfl
theorem yr_1_3 {u : sm_M} (h : Ly u) : sm_Rf u 1 3 = some 98 := h.rf (by decide) rfl
theorem yr_1_4 {u : sm_M} (h : Ly u) : sm_Rf u 1 4 = some 99 := h.rf (by decide) rfl
theorem yr_1_5 {u : sm_M} (h : Ly u) : sm_Rf u 1 5 = some 100 := h.rf (by decide) rfl
theorem yr_1_6 {u : sm_M} (h : Ly u) : sm_Rf u 1 6 = some 101 := h.rf (by decide) rfl
theorem yr_1_7 {u : sm_M} (h : Ly u) : sm_Rf u 1 7 = some 102 := h.rf (by decide) rfl
theorem yr_1_8 {u : sm_M} (h : Ly u) : sm_Rf u 1 8 = some 103 := h.rf (by decide) rfl
theorem yr_2_5 {u : sm_M} (h : Ly u) : sm_Rf u 2 5 = some 3 := h.rf (by decide) rfl
theorem yr_2_6 {u : sm_M} (h : Ly u) : sm_Rf u 2 6 = some 4 := h.rf (by decide) rfl
theorem yr_5_0 {u : sm_M} (h : Ly u) : sm_Rf u 5 0 = some 6 := h.rf (by decide) rfl
theorem yr_114_0 {u : sm_M} (h : Ly u) : sm_Rf u 114 0 = some 115 := h.rf (by decide) rfl
theorem yr_114_1 {u : sm_M} (h : Ly u) : sm_Rf u 114 1 = some 118 := h.rf (by decide) rfl
theorem yr_114_2 {u : sm_M} (h : Ly u) : sm_Rf u 114 2 = some 210 := h.rf (by decide) rfl
theorem yr_114_3 {u : sm_M} (h : Ly u) : sm_Rf u 114 3 = some 211 := h.rf (by decide) rfl
theorem yr_114_4 {u : sm_M} (h : Ly u) : sm_Rf u 114 4 = some 212 := h.rf (by decide) rfl
theorem yr_114_5 {u : sm_M} (h : Ly u) : sm_Rf u 114 5 = some 213 := h.rf (by decide) rfl
theorem yr_114_6 {u : sm_M} (h : Ly u) : sm_Rf u 114 6 = some 214 := h.rf (by decide) rfl
theorem yr_114_7 {u : sm_M} (h : Ly u) : sm_Rf u 114 7 = some 215 := h.rf (by decide) rfl
theorem yr_114_8 {u : sm_M} (h : Ly u) : sm_Rf u 114 8 = some 216 := h.rf (by decide) rfl
theorem yr_115_5 {u : sm_M} (h : Ly u) : sm_Rf u 115 5 = some 116 := h.rf (by decide) rfl
theorem yr_115_6 {u : sm_M} (h : Ly u) : sm_Rf u 115 6 = some 117 := h.rf (by decide) rfl
theorem yr_118_0 {u : sm_M} (h : Ly u) : sm_Rf u 118 0 = some 119 := h.rf (by decide) rfl
theorem yr_227_0 {u : sm_M} (h : Ly u) : sm_Rf u 227 0 = some 228 := h.rf (by decide) rfl
theorem yr_227_1 {u : sm_M} (h : Ly u) : sm_Rf u 227 1 = some 229 := h.rf (by decide) rfl
theorem yr_227_2 {u : sm_M} (h : Ly u) : sm_Rf u 227 2 = some 230 := h.rf (by decide) rfl
theorem yr_227_3 {u : sm_M} (h : Ly u) : sm_Rf u 227 3 = some 231 := h.rf (by decide) rfl
theorem yr_232_0 {u : sm_M} (h : Ly u) : sm_Rf u 232 0 = some 227 := h.rf (by decide) rfl
theorem yr_233_0 {u : sm_M} (h : Ly u) : sm_Rf u 233 0 = some 1 := h.rf (by decide) rfl
theorem yr_233_1 {u : sm_M} (h : Ly u) : sm_Rf u 233 1 = some 234 := h.rf (by decide) rfl
theorem yr_233_2 {u : sm_M} (h : Ly u) : sm_Rf u 233 2 = some 235 := h.rf (by decide) rfl
theorem yr_236_0 {u : sm_M} (h : Ly u) : sm_Rf u 236 0 = some 237 := h.rf (by decide) rfl
theorem yr_236_1 {u : sm_M} (h : Ly u) : sm_Rf u 236 1 = some 238 := h.rf (by decide) rfl
theorem yr_236_2 {u : sm_M} (h : Ly u) : sm_Rf u 236 2 = some 239 := h.rf (by decide) rfl
theorem yr_236_3 {u : sm_M} (h : Ly u) : sm_Rf u 236 3 = some 240 := h.rf (by decide) rfl
theorem yr_236_4 {u : sm_M} (h : Ly u) : sm_Rf u 236 4 = some 241 := h.rf (by decide) rfl
theorem yr_236_5 {u : sm_M} (h : Ly u) : sm_Rf u 236 5 = some 242 := h.rf (by decide) rfl
theorem yr_243_0 {u : sm_M} (h : Ly u) : sm_Rf u 243 0 = some 244 := h.rf (by decide) rfl
theorem yr_243_1 {u : sm_M} (h : Ly u) : sm_Rf u 243 1 = some 245 := h.rf (by decide) rfl
theorem yr_243_2 {u : sm_M} (h : Ly u) : sm_Rf u 243 2 = some 246 := h.rf (by decide) rfl
theorem yr_243_3 {u : sm_M} (h : Ly u) : sm_Rf u 243 3 = some 247 := h.rf (by decide) rfl
theorem yr_243_4 {u : sm_M} (h : Ly u) : sm_Rf u 243 4 = some 248 := h.rf (by decide) rfl
theorem yr_243_5 {u : sm_M} (h : Ly u) : sm_Rf u 243 5 = some 249 := h.rf (by decide) rfl
theorem yr_250_0 {u : sm_M} (h : Ly u) : sm_Rf u 250 0 = some 251 := h.rf (by decide) rfl
theorem yr_250_1 {u : sm_M} (h : Ly u) : sm_Rf u 250 1 = some 252 := h.rf (by decide) rfl
theorem yr_250_2 {u : sm_M} (h : Ly u) : sm_Rf u 250 2 = some 253 := h.rf (by decide) rfl
theorem yr_250_3 {u : sm_M} (h : Ly u) : sm_Rf u 250 3 = some 254 := h.rf (by decide) rfl
theorem yr_250_4 {u : sm_M} (h : Ly u) : sm_Rf u 250 4 = some 255 := h.rf (by decide) rfl
theorem yr_250_5 {u : sm_M} (h : Ly u) : sm_Rf u 250 5 = some 256 := h.rf (by decide) rfl
theorem yr_257_0 {u : sm_M} (h : Ly u) : sm_Rf u 257 0 = some 258 := h.rf (by decide) rfl
theorem yr_257_1 {u : sm_M} (h : Ly u) : sm_Rf u 257 1 = some 259 := h.rf (by decide) rfl
theorem yr_257_2 {u : sm_M} (h : Ly u) : sm_Rf u 257 2 = some 260 := h.rf (by decide) rfl
theorem yr_257_3 {u : sm_M} (h : Ly u) : sm_Rf u 257 3 = some 261 := h.rf (by decide) rfl
theorem yr_257_4 {u : sm_M} (h : Ly u) : sm_Rf u 257 4 = some 262 := h.rf (by decide) rfl
theorem yr_257_5 {u : sm_M} (h : Ly u) : sm_Rf u 257 5 = some 263 := h.rf (by decide) rfl
theorem yr_264_0 {u : sm_M} (h : Ly u) : sm_Rf u 264 0 = some 1 := h.rf (by decide) rfl
theorem yr_264_1 {u : sm_M} (h : Ly u) : sm_Rf u 264 1 = some 233 := h.rf (by decide) rfl
theorem yr_264_2 {u : sm_M} (h : Ly u) : sm_Rf u 264 2 = some 265 := h.rf (by decide) rfl
theorem yr_264_3 {u : sm_M} (h : Ly u) : sm_Rf u 264 3 = some 266 := h.rf (by decide) rfl
theorem yr_264_4 {u : sm_M} (h : Ly u) : sm_Rf u 264 4 = some 267 := h.rf (by decide) rfl
theorem yr_268_0 {u : sm_M} (h : Ly u) : sm_Rf u 268 0 = some 1 := h.rf (by decide) rfl
theorem yr_268_1 {u : sm_M} (h : Ly u) : sm_Rf u 268 1 = some 233 := h.rf (by decide) rfl
theorem yr_268_2 {u : sm_M} (h : Ly u) : sm_Rf u 268 2 = some 269 := h.rf (by decide) rfl
theorem yr_268_3 {u : sm_M} (h : Ly u) : sm_Rf u 268 3 = some 270 := h.rf (by decide) rfl
theorem yr_271_0 {u : sm_M} (h : Ly u) : sm_Rf u 271 0 = some 1 := h.rf (by decide) rfl
theorem yr_271_1 {u : sm_M} (h : Ly u) : sm_Rf u 271 1 = some 233 := h.rf (by decide) rfl
theorem yr_271_2 {u : sm_M} (h : Ly u) : sm_Rf u 271 2 = some 272 := h.rf (by decide) rfl
theorem yr_271_3 {u : sm_M} (h : Ly u) : sm_Rf u 271 3 = some 273 := h.rf (by decide) rfl
theorem yr_271_4 {u : sm_M} (h : Ly u) : sm_Rf u 271 4 = some 274 := h.rf (by decide) rfl
theorem yr_275_0 {u : sm_M} (h : Ly u) : sm_Rf u 275 0 = some 276 := h.rf (by decide) rfl
theorem yr_275_1 {u : sm_M} (h : Ly u) : sm_Rf u 275 1 = some 277 := h.rf (by decide) rfl
theorem yr_275_2 {u : sm_M} (h : Ly u) : sm_Rf u 275 2 = some 278 := h.rf (by decide) rfl
theorem yr_275_3 {u : sm_M} (h : Ly u) : sm_Rf u 275 3 = some 279 := h.rf (by decide) rfl
theorem yr_275_15 {u : sm_M} (h : Ly u) : sm_Rf u 275 15 = some 280 := h.rf (by decide) rfl
theorem yr_275_16 {u : sm_M} (h : Ly u) : sm_Rf u 275 16 = some 281 := h.rf (by decide) rfl
theorem yr_275_22 {u : sm_M} (h : Ly u) : sm_Rf u 275 22 = some 282 := h.rf (by decide) rfl
theorem yr_275_23 {u : sm_M} (h : Ly u) : sm_Rf u 275 23 = some 283 := h.rf (by decide) rfl
theorem yr_275_24 {u : sm_M} (h : Ly u) : sm_Rf u 275 24 = some 284 := h.rf (by decide) rfl
theorem yr_275_25 {u : sm_M} (h : Ly u) : sm_Rf u 275 25 = some 285 := h.rf (by decide) rfl
theorem yr_275_26 {u : sm_M} (h : Ly u) : sm_Rf u 275 26 = some 286 := h.rf (by decide) rfl
theorem yr_275_27 {u : sm_M} (h : Ly u) : sm_Rf u 275 27 = some 287 := h.rf (by decide) rfl
theorem yr_275_28 {u : sm_M} (h : Ly u) : sm_Rf u 275 28 = some 288 := h.rf (by decide) rfl
theorem yr_275_29 {u : sm_M} (h : Ly u) : sm_Rf u 275 29 = some 289 := h.rf (by decide) rfl
theorem yr_275_30 {u : sm_M} (h : Ly u) : sm_Rf u 275 30 = some 290 := h.rf (by decide) rfl
theorem yr_275_31 {u : sm_M} (h : Ly u) : sm_Rf u 275 31 = some 291 := h.rf (by decide) rfl
theorem yr_275_32 {u : sm_M} (h : Ly u) : sm_Rf u 275 32 = some 292 := h.rf (by decide) rfl
theorem yr_275_33 {u : sm_M} (h : Ly u) : sm_Rf u 275 33 = some 293 := h.rf (by decide) rfl
