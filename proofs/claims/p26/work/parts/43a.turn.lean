def X_turn (a b : Int32) (x : XS) : Int32 × XS := (bnd (F_Law_joint b) (fun r_1 => (bnd (F_TC_count (1 : Int32) (x.1.1 0) (x.1.1 1) (x.1.2.1 0) (x.1.2.1 1) (x.1.2.1 2) (x.1.2.2 0) (x.1.1 3) (x.1.1 11) x.2.2.2.2.2.1 (nI x.2.1)) (fun r_2 => (bnd (F_TC_player r_2 (0 : Int32) (x.1.1 2) (x.1.1 3) (x.1.1 4) (x.1.1 5) (x.1.1 6) (x.1.1 7) (x.1.1 8) (x.1.1 9) (x.1.1 10) (x.1.1 11) (x.1.1 12) (x.1.1 13) (x.1.1 14) (x.1.1 15) (x.1.1 16) (x.1.1 17)) (fun r_3 => (bnd (F_TC_player ((1 : Int32) - r_2) (0 : Int32) (x.1.1 2) (x.1.1 3) (x.1.1 4) (x.1.1 5) (x.1.1 6) (x.1.1 7) (x.1.1 8) (x.1.1 9) (x.1.1 10) (x.1.1 11) (x.1.1 12) (x.1.1 13) (x.1.1 14) (x.1.1 15) (x.1.1 16) (x.1.1 17)) (fun r_4 => (bnd (F_TC_count (0 : Int32) (x.1.1 0) (x.1.1 1) (x.1.2.1 0) (x.1.2.1 1) (x.1.2.1 2) (x.1.2.2 0) (x.1.1 3) (x.1.1 11) x.2.2.2.2.2.1 (nI x.2.1)) (fun r_5 => (bnd ((bnd (F_TC_count (2 : Int32) (x.1.1 0) (x.1.1 1) (x.1.2.1 0) (x.1.2.1 1) (x.1.2.1 2) (x.1.2.2 0) (x.1.1 3) (x.1.1 11) x.2.2.2.2.2.1 (nI x.2.1)) (fun r_6 => (if r_6 = 1 then 1 else 0))) : Int32) (fun v_8 => (bnd (F_TC_of r_1 (0 : Int32) (x.1.1 1) (x.1.2.1 0) (x.1.2.1 1) (x.1.2.1 2) (x.1.2.2 0) (x.1.2.2 1) (x.1.1 2) (x.1.2.2 2) (x.1.1 10) (x.1.2.2 3)) (fun r_9 => (bnd ((if v_8 = 0 then (if (82 : Int32) ≤ r_1 then 0 else (bnd (F_TC_of r_1 (1 : Int32) (x.1.1 1) (x.1.2.1 0) (x.1.2.1 1) (x.1.2.1 2) (x.1.2.2 0) (x.1.2.2 1) (x.1.1 2) (x.1.2.2 2) (x.1.1 10) (x.1.2.2 3)) (fun r_12 => (if r_12 = 0 then 1 else 0)))) else 0) : Int32) (fun v_14 => (bnd ((bnd (F_Law_low a (16 : Int32)) (fun r_15 => (if r_15 = 0 then (bnd ((if (82 : Int32) ≤ r_1 then 0 else (bnd (F_TC_of r_1 (4 : Int32) (x.1.1 1) (x.1.2.1 0) (x.1.2.1 1) (x.1.2.1 2) (x.1.2.2 0) (x.1.2.2 1) (x.1.1 2) (x.1.2.2 2) (x.1.1 10) (x.1.2.2 3)) (fun r_18 => (if ((r_18 >>> (r_2 &&& 31)) &&& 1) = 1 then 1 else 0)))) : Int32) (fun v_20 => (bnd ((if r_1 = 82 then (-1) else (if v_14 = 0 then (-5) else (bnd (F_TC_of r_1 (6 : Int32) (x.1.1 1) (x.1.2.1 0) (x.1.2.1 1) (x.1.2.1 2) (x.1.2.2 0) (x.1.2.2 1) (x.1.1 2) (x.1.2.2 2) (x.1.1 10) (x.1.2.2 3)) (fun r_23 => (if r_23 = 0 then (-5) else (if v_20 = 0 then (bnd (F_TC_player r_2 (2 : Int32) (x.1.1 2) (x.1.1 3) (x.1.1 4) (x.1.1 5) (x.1.1 6) (x.1.1 7) (x.1.1 8) (x.1.1 9) (x.1.1 10) (x.1.1 11) (x.1.1 12) (x.1.1 13) (x.1.1 14) (x.1.1 15) (x.1.1 16) (x.1.1 17)) (fun r_26 => (if r_26 = 8 then (-4) else (bnd (F_TC_player r_2 (2 : Int32) (x.1.1 2) (x.1.1 3) (x.1.1 4) (x.1.1 5) (x.1.1 6) (x.1.1 7) (x.1.1 8) (x.1.1 9) (x.1.1 10) (x.1.1 11) (x.1.1 12) (x.1.1 13) (x.1.1 14) (x.1.1 15) (x.1.1 16) (x.1.1 17)) (fun r_28 => (r_28 + 1)))))) else (-5))))))) : Int32) (fun v_29 => (bnd (X_chalk r_1 x) (fun r_30 => (r_30.1, v_29, 0, r_30.2))))))) else (if r_15 = 1 then (bnd ((if (82 : Int32) ≤ r_1 then 0 else (bnd (F_TC_of r_1 (4 : Int32) (x.1.1 1) (x.1.2.1 0) (x.1.2.1 1) (x.1.2.1 2) (x.1.2.2 0) (x.1.2.2 1) (x.1.1 2) (x.1.2.2 2) (x.1.1 10) (x.1.2.2 3)) (fun r_44 => (if ((r_44 >>> (r_2 &&& 31)) &&& 1) = 1 then 1 else 0)))) : Int32) (fun v_46 => (bnd ((if r_1 = 82 then (-1) else (if v_14 = 0 then (-5) else (bnd (F_TC_of r_1 (6 : Int32) (x.1.1 1) (x.1.2.1 0) (x.1.2.1 1) (x.1.2.1 2) (x.1.2.2 0) (x.1.2.2 1) (x.1.1 2) (x.1.2.2 2) (x.1.1 10) (x.1.2.2 3)) (fun r_49 => (if r_49 = 0 then (-5) else (if v_46 = 0 then (bnd (F_TC_player r_2 (2 : Int32) (x.1.1 2) (x.1.1 3) (x.1.1 4) (x.1.1 5) (x.1.1 6) (x.1.1 7) (x.1.1 8) (x.1.1 9) (x.1.1 10) (x.1.1 11) (x.1.1 12) (x.1.1 13) (x.1.1 14) (x.1.1 15) (x.1.1 16) (x.1.1 17)) (fun r_52 => (if r_52 = 8 then (-4) else (bnd (F_TC_player r_2 (2 : Int32) (x.1.1 2) (x.1.1 3) (x.1.1 4) (x.1.1 5) (x.1.1 6) (x.1.1 7) (x.1.1 8) (x.1.1 9) (x.1.1 10) (x.1.1 11) (x.1.1 12) (x.1.1 13) (x.1.1 14) (x.1.1 15) (x.1.1 16) (x.1.1 17)) (fun r_54 => (r_54 + 1)))))) else (-5))))))) : Int32) (fun v_55 => (bnd (X_chalk r_1 x) (fun r_56 => (r_56.1, v_55, 0, r_56.2))))))) else (if r_15 = 2 then (bnd ((if (82 : Int32) ≤ r_1 then 0 else (bnd (F_TC_of r_1 (4 : Int32) (x.1.1 1) (x.1.2.1 0) (x.1.2.1 1) (x.1.2.1 2) (x.1.2.2 0) (x.1.2.2 1) (x.1.1 2) (x.1.2.2 2) (x.1.1 10) (x.1.2.2 3)) (fun r_70 => (if ((r_70 >>> (r_2 &&& 31)) &&& 1) = 1 then 1 else 0)))) : Int32) (fun v_72 => (bnd ((if r_1 = 82 then (-1) else (if v_14 = 0 then (-5) else (bnd (F_TC_of r_1 (6 : Int32) (x.1.1 1) (x.1.2.1 0) (x.1.2.1 1) (x.1.2.1 2) (x.1.2.2 0) (x.1.2.2 1) (x.1.1 2) (x.1.2.2 2) (x.1.1 10) (x.1.2.2 3)) (fun r_75 => (if r_75 = 0 then (-5) else (if v_72 = 0 then (bnd (F_TC_player r_2 (2 : Int32) (x.1.1 2) (x.1.1 3) (x.1.1 4) (x.1.1 5) (x.1.1 6) (x.1.1 7) (x.1.1 8) (x.1.1 9) (x.1.1 10) (x.1.1 11) (x.1.1 12) (x.1.1 13) (x.1.1 14) (x.1.1 15) (x.1.1 16) (x.1.1 17)) (fun r_78 => (if r_78 = 8 then (-4) else (bnd (F_TC_player r_2 (2 : Int32) (x.1.1 2) (x.1.1 3) (x.1.1 4) (x.1.1 5) (x.1.1 6) (x.1.1 7) (x.1.1 8) (x.1.1 9) (x.1.1 10) (x.1.1 11) (x.1.1 12) (x.1.1 13) (x.1.1 14) (x.1.1 15) (x.1.1 16) (x.1.1 17)) (fun r_80 => (r_80 + 1)))))) else (-5))))))) : Int32) (fun v_81 => (bnd (X_chalk r_1 x) (fun r_82 => (r_82.1, v_81, 0, r_82.2))))))) else (if r_15 = 3 then (bnd (F_TC_ifSnipped r_1 (x.1.1 1) (x.1.2.1 0) (x.1.2.1 1) (x.1.2.1 2) (x.1.2.2 0)) (fun r_95 => (bnd ((if (0 : Int32) ≤ r_95 then (bnd ((bnd (F_TC_of r_1 (4 : Int32) (x.1.1 1) (x.1.2.1 0) (x.1.2.1 1) (x.1.2.1 2) (x.1.2.2 0) (x.1.2.2 1) (x.1.1 2) (x.1.2.2 2) (x.1.1 10) (x.1.2.2 3)) (fun r_97 => (if ((r_97 >>> (r_2 &&& 31)) &&& 1) = 1 then 1 else 0))) : Int32) (fun v_99 => (bnd ((bnd (F_TC_of r_1 (4 : Int32) (x.1.1 1) (x.1.2.1 0) (x.1.2.1 1) (x.1.2.1 2) (x.1.2.2 0) (x.1.2.2 1) (x.1.1 2) (x.1.2.2 2) (x.1.1 10) (x.1.2.2 3)) (fun r_100 => (if ((r_100 >>> (((1 : Int32) - r_2) &&& 31)) &&& 1) = 1 then 3 else 0))) : Int32) (fun v_102 => ((r_95 + v_99) - v_102))))) else 0) : Int32) (fun v_107 => (bnd (X_snip r_1 x) (fun r_108 => (r_108.1, r_95, v_107, r_108.2))))))) else (if r_15 = 4 then (bnd (F_TC_ifSnipped r_1 (x.1.1 1) (x.1.2.1 0) (x.1.2.1 1) (x.1.2.1 2) (x.1.2.2 0)) (fun r_121 => (bnd ((if (0 : Int32) ≤ r_121 then (bnd ((bnd (F_TC_of r_1 (4 : Int32) (x.1.1 1) (x.1.2.1 0) (x.1.2.1 1) (x.1.2.1 2) (x.1.2.2 0) (x.1.2.2 1) (x.1.1 2) (x.1.2.2 2) (x.1.1 10) (x.1.2.2 3)) (fun r_123 => (if ((r_123 >>> (r_2 &&& 31)) &&& 1) = 1 then 1 else 0))) : Int32) (fun v_125 => (bnd ((bnd (F_TC_of r_1 (4 : Int32) (x.1.1 1) (x.1.2.1 0) (x.1.2.1 1) (x.1.2.1 2) (x.1.2.2 0) (x.1.2.2 1) (x.1.1 2) (x.1.2.2 2) (x.1.1 10) (x.1.2.2 3)) (fun r_126 => (if ((r_126 >>> (((1 : Int32) - r_2) &&& 31)) &&& 1) = 1 then 3 else 0))) : Int32) (fun v_128 => ((r_121 + v_125) - v_128))))) else 0) : Int32) (fun v_133 => (bnd (X_snip r_1 x) (fun r_134 => (r_134.1, r_121, v_133, r_134.2))))))) else (if r_15 = 5 then (bnd (F_TC_ifSnipped r_1 (x.1.1 1) (x.1.2.1 0) (x.1.2.1 1) (x.1.2.1 2) (x.1.2.2 0)) (fun r_147 => (bnd ((if (0 : Int32) ≤ r_147 then (bnd ((bnd (F_TC_of r_1 (4 : Int32) (x.1.1 1) (x.1.2.1 0) (x.1.2.1 1) (x.1.2.1 2) (x.1.2.2 0) (x.1.2.2 1) (x.1.1 2) (x.1.2.2 2) (x.1.1 10) (x.1.2.2 3)) (fun r_149 => (if ((r_149 >>> (r_2 &&& 31)) &&& 1) = 1 then 1 else 0))) : Int32) (fun v_151 => (bnd ((bnd (F_TC_of r_1 (4 : Int32) (x.1.1 1) (x.1.2.1 0) (x.1.2.1 1) (x.1.2.1 2) (x.1.2.2 0) (x.1.2.2 1) (x.1.1 2) (x.1.2.2 2) (x.1.1 10) (x.1.2.2 3)) (fun r_152 => (if ((r_152 >>> (((1 : Int32) - r_2) &&& 31)) &&& 1) = 1 then 3 else 0))) : Int32) (fun v_154 => ((r_147 + v_151) - v_154))))) else 0) : Int32) (fun v_159 => (bnd (X_snip r_1 x) (fun r_160 => (r_160.1, r_147, v_159, r_160.2))))))) else (if r_15 = 6 then (bnd (F_TC_ifSnipped r_1 (x.1.1 1) (x.1.2.1 0) (x.1.2.1 1) (x.1.2.1 2) (x.1.2.2 0)) (fun r_173 => (bnd ((if (0 : Int32) ≤ r_173 then (bnd ((bnd (F_TC_of r_1 (4 : Int32) (x.1.1 1) (x.1.2.1 0) (x.1.2.1 1) (x.1.2.1 2) (x.1.2.2 0) (x.1.2.2 1) (x.1.1 2) (x.1.2.2 2) (x.1.1 10) (x.1.2.2 3)) (fun r_175 => (if ((r_175 >>> (r_2 &&& 31)) &&& 1) = 1 then 1 else 0))) : Int32) (fun v_177 => (bnd ((bnd (F_TC_of r_1 (4 : Int32) (x.1.1 1) (x.1.2.1 0) (x.1.2.1 1) (x.1.2.1 2) (x.1.2.2 0) (x.1.2.2 1) (x.1.1 2) (x.1.2.2 2) (x.1.1 10) (x.1.2.2 3)) (fun r_178 => (if ((r_178 >>> (((1 : Int32) - r_2) &&& 31)) &&& 1) = 1 then 3 else 0))) : Int32) (fun v_180 => ((r_173 + v_177) - v_180))))) else 0) : Int32) (fun v_185 => (bnd (X_snip r_1 x) (fun r_186 => (r_186.1, r_173, v_185, r_186.2))))))) else (if r_15 = 7 then (bnd (F_TC_ifSnipped r_1 (x.1.1 1) (x.1.2.1 0) (x.1.2.1 1) (x.1.2.1 2) (x.1.2.2 0)) (fun r_199 => (bnd ((if (0 : Int32) ≤ r_199 then (bnd ((bnd (F_TC_of r_1 (4 : Int32) (x.1.1 1) (x.1.2.1 0) (x.1.2.1 1) (x.1.2.1 2) (x.1.2.2 0) (x.1.2.2 1) (x.1.1 2) (x.1.2.2 2) (x.1.1 10) (x.1.2.2 3)) (fun r_201 => (if ((r_201 >>> (r_2 &&& 31)) &&& 1) = 1 then 1 else 0))) : Int32) (fun v_203 => (bnd ((bnd (F_TC_of r_1 (4 : Int32) (x.1.1 1) (x.1.2.1 0) (x.1.2.1 1) (x.1.2.1 2) (x.1.2.2 0) (x.1.2.2 1) (x.1.1 2) (x.1.2.2 2) (x.1.1 10) (x.1.2.2 3)) (fun r_204 => (if ((r_204 >>> (((1 : Int32) - r_2) &&& 31)) &&& 1) = 1 then 3 else 0))) : Int32) (fun v_206 => ((r_199 + v_203) - v_206))))) else 0) : Int32) (fun v_211 => (bnd (X_snip r_1 x) (fun r_212 => (r_212.1, r_199, v_211, r_212.2))))))) else (if r_15 = 8 then (bnd (F_TC_ifSnipped r_1 (x.1.1 1) (x.1.2.1 0) (x.1.2.1 1) (x.1.2.1 2) (x.1.2.2 0)) (fun r_225 => (bnd ((if (0 : Int32) ≤ r_225 then (bnd ((bnd (F_TC_of r_1 (4 : Int32) (x.1.1 1) (x.1.2.1 0) (x.1.2.1 1) (x.1.2.1 2) (x.1.2.2 0) (x.1.2.2 1) (x.1.1 2) (x.1.2.2 2) (x.1.1 10) (x.1.2.2 3)) (fun r_227 => (if ((r_227 >>> (r_2 &&& 31)) &&& 1) = 1 then 1 else 0))) : Int32) (fun v_229 => (bnd ((bnd (F_TC_of r_1 (4 : Int32) (x.1.1 1) (x.1.2.1 0) (x.1.2.1 1) (x.1.2.1 2) (x.1.2.2 0) (x.1.2.2 1) (x.1.1 2) (x.1.2.2 2) (x.1.1 10) (x.1.2.2 3)) (fun r_230 => (if ((r_230 >>> (((1 : Int32) - r_2) &&& 31)) &&& 1) = 1 then 3 else 0))) : Int32) (fun v_232 => ((r_225 + v_229) - v_232))))) else 0) : Int32) (fun v_237 => (bnd (X_snip r_1 x) (fun r_238 => (r_238.1, r_225, v_237, r_238.2))))))) else (if r_15 = 9 then (bnd (F_TC_player r_2 (1 : Int32) (x.1.1 2) (x.1.1 3) (x.1.1 4) (x.1.1 5) (x.1.1 6) (x.1.1 7) (x.1.1 8) (x.1.1 9) (x.1.1 10) (x.1.1 11) (x.1.1 12) (x.1.1 13) (x.1.1 14) (x.1.1 15) (x.1.1 16) (x.1.1 17)) (fun r_251 => (bnd ((if r_1 = 82 then (-1) else (if v_14 = 0 then (-5) else (if r_9 = 1 then (if r_251 = 0 then (-5) else (r_251 - 1)) else (-5)))) : Int32) (fun v_256 => (bnd (X_sew r_1 x) (fun r_257 => (r_257.1, v_256, 0, r_257.2))))))) else (if r_15 = 10 then (bnd (F_TC_player r_2 (1 : Int32) (x.1.1 2) (x.1.1 3) (x.1.1 4) (x.1.1 5) (x.1.1 6) (x.1.1 7) (x.1.1 8) (x.1.1 9) (x.1.1 10) (x.1.1 11) (x.1.1 12) (x.1.1 13) (x.1.1 14) (x.1.1 15) (x.1.1 16) (x.1.1 17)) (fun r_263 => (bnd ((if r_1 = 82 then (-1) else (if v_14 = 0 then (-5) else (if r_9 = 1 then (if r_263 = 0 then (-5) else (r_263 - 1)) else (-5)))) : Int32) (fun v_268 => (bnd (X_sew r_1 x) (fun r_269 => (r_269.1, v_268, 0, r_269.2))))))) else (if r_15 = 11 then (bnd ((if r_1 = 82 then (-1) else (if v_14 = 0 then (-5) else (if r_9 = 1 then (bnd (F_TC_count (8 : Int32) (x.1.1 0) (x.1.1 1) (x.1.2.1 0) (x.1.2.1 1) (x.1.2.1 2) (x.1.2.2 0) (x.1.1 3) (x.1.1 11) x.2.2.2.2.2.1 (nI x.2.1)) (fun r_278 => (r_278 + 1))) else (-5)))) : Int32) (fun v_279 => (bnd (X_bluff r_1 x) (fun r_280 => (r_280.1, v_279, 0, r_280.2))))) else (if r_15 = 12 then (bnd ((if r_1 = 82 then (-1) else (if v_14 = 0 then (-5) else (if r_9 = 1 then (bnd (F_TC_count (8 : Int32) (x.1.1 0) (x.1.1 1) (x.1.2.1 0) (x.1.2.1 1) (x.1.2.1 2) (x.1.2.2 0) (x.1.1 3) (x.1.1 11) x.2.2.2.2.2.1 (nI x.2.1)) (fun r_289 => (r_289 + 1))) else (-5)))) : Int32) (fun v_290 => (bnd (X_bluff r_1 x) (fun r_291 => (r_291.1, v_290, 0, r_291.2))))) else (if r_15 = 13 then (bnd ((if r_1 = 82 then (-1) else (if v_14 = 0 then (-5) else (bnd (F_TC_of r_1 (5 : Int32) (x.1.1 1) (x.1.2.1 0) (x.1.2.1 1) (x.1.2.1 2) (x.1.2.2 0) (x.1.2.2 1) (x.1.1 2) (x.1.2.2 2) (x.1.1 10) (x.1.2.2 3)) (fun r_299 => (if r_299 = ((1 : Int32) - r_2) then (if r_9 = 3 then 1 else 0) else (-5)))))) : Int32) (fun v_302 => (bnd ((if (0 : Int32) ≤ v_302 then (if v_302 = 1 then 2 else (-2)) else 0) : Int32) (fun v_305 => (bnd (X_doubt r_1 x) (fun r_306 => (r_306.1, v_302, v_305, r_306.2))))))) else (if r_15 = 14 then (bnd ((if r_1 = 82 then (-1) else (if v_14 = 0 then (-5) else (bnd (F_TC_of r_1 (5 : Int32) (x.1.1 1) (x.1.2.1 0) (x.1.2.1 1) (x.1.2.1 2) (x.1.2.2 0) (x.1.2.2 1) (x.1.1 2) (x.1.2.2 2) (x.1.1 10) (x.1.2.2 3)) (fun r_317 => (if r_317 = ((1 : Int32) - r_2) then (if r_9 = 3 then 1 else 0) else (-5)))))) : Int32) (fun v_320 => (bnd ((if (0 : Int32) ≤ v_320 then (if v_320 = 1 then 2 else (-2)) else 0) : Int32) (fun v_323 => (bnd (X_doubt r_1 x) (fun r_324 => (r_324.1, v_320, v_323, r_324.2))))))) else (bnd ((if v_8 = 0 then ((1 : Int32) - r_2) else (-5)) : Int32) (fun v_333 => (bnd (X_pass  x) (fun r_334 => (r_334.1, v_333, 0, r_334.2)))))))))))))))))))))) : Int32 × Int32 × Int32 × XS) (fun v_336 => (bnd ((if v_336.1 = v_336.2.1 then (bnd (F_TC_player r_2 (0 : Int32) (v_336.2.2.2.1.1 2) (v_336.2.2.2.1.1 3) (v_336.2.2.2.1.1 4) (v_336.2.2.2.1.1 5) (v_336.2.2.2.1.1 6) (v_336.2.2.2.1.1 7) (v_336.2.2.2.1.1 8) (v_336.2.2.2.1.1 9) (v_336.2.2.2.1.1 10) (v_336.2.2.2.1.1 11) (v_336.2.2.2.1.1 12) (v_336.2.2.2.1.1 13) (v_336.2.2.2.1.1 14) (v_336.2.2.2.1.1 15) (v_336.2.2.2.1.1 16) (v_336.2.2.2.1.1 17)) (fun r_338 => (if r_338 = (r_3 + v_336.2.2.1) then (bnd (F_TC_player ((1 : Int32) - r_2) (0 : Int32) (v_336.2.2.2.1.1 2) (v_336.2.2.2.1.1 3) (v_336.2.2.2.1.1 4) (v_336.2.2.2.1.1 5) (v_336.2.2.2.1.1 6) (v_336.2.2.2.1.1 7) (v_336.2.2.2.1.1 8) (v_336.2.2.2.1.1 9) (v_336.2.2.2.1.1 10) (v_336.2.2.2.1.1 11) (v_336.2.2.2.1.1 12) (v_336.2.2.2.1.1 13) (v_336.2.2.2.1.1 14) (v_336.2.2.2.1.1 15) (v_336.2.2.2.1.1 16) (v_336.2.2.2.1.1 17)) (fun r_340 => (if r_340 = r_4 then (bnd (F_TC_count (0 : Int32) (v_336.2.2.2.1.1 0) (v_336.2.2.2.1.1 1) (v_336.2.2.2.1.2.1 0) (v_336.2.2.2.1.2.1 1) (v_336.2.2.2.1.2.1 2) (v_336.2.2.2.1.2.2 0) (v_336.2.2.2.1.1 3) (v_336.2.2.2.1.1 11) v_336.2.2.2.2.2.2.2.2.1 (nI v_336.2.2.2.2.1)) (fun r_342 => (bnd ((if (0 : Int32) ≤ v_336.2.1 then 1 else 0) : Int32) (fun v_344 => (if r_342 = (r_5 + v_344) then 1 else 0))))) else 0))) else 0))) else 0) : Int32) (fun v_347 => (if v_347 = 0 then (0, v_336.2.2.2) else (bnd (F_TC_count (1 : Int32) (v_336.2.2.2.1.1 0) (v_336.2.2.2.1.1 1) (v_336.2.2.2.1.2.1 0) (v_336.2.2.2.1.2.1 1) (v_336.2.2.2.1.2.1 2) (v_336.2.2.2.1.2.2 0) (v_336.2.2.2.1.1 3) (v_336.2.2.2.1.1 11) v_336.2.2.2.2.2.2.2.2.1 (nI v_336.2.2.2.2.1)) (fun r_349 => (bnd ((if (0 : Int32) ≤ v_336.2.1 then ((1 : Int32) - r_2) else r_2) : Int32) (fun v_351 => (if r_349 = v_351 then (1, v_336.2.2.2) else (0, v_336.2.2.2)))))))))))))))))))))))))))
set_option maxHeartbeats 4000000 in
set_option maxRecDepth 100000 in
theorem cu_Law_turn (l : Launch) (dC : Nat → ClassId) (dI : Nat → Nat → Nat) (cI cC cG cZ : ClassId) (ad pa : Nat → Nat → Nat) (x : XS) (a b : Int32) (hI : IX x) (res : Int32 × XS) (hres : res = X_turn a b x) : Met l yL_turn wsL_turn ({ frames := 8, cells := 0, slots := 0, locals := 171 }) (va_Pc [.ref (ad 0 0), .int a, .int b] (b_Pre (dC, dI) vwCl (tyL cI cC cG cZ) (xW cI cC cG ad pa x))) (bQi (dC, dI) vwCl res.1 (fun pa => (xW cI cC cG ad pa res.2)) (bA (xW cI cC cG ad pa x))) 0 0 (bA (xW cI cC cG ad pa x)) := by
  refine Met.ofW (cc := cL_turn) (maxL := 16) (ret := (some .boolean)) (by decide) rfl ?_
  intro p e s m args below meth c s₁ B hml hv
  obtain ⟨rfl, hP, hK, hD0⟩ := hv
  have hx := B.exec
  have hb := B.bytes
  have hr := B.returns
  have hts := atoms_spec (ws := wsL_turn) B.pre
  have hown : s.vm.findClass RL = some m.cls := findClass_of_methodNamed B.named
  have hlocks := B.notSynchronized
  have hD := hD0.self
  generalize hAe : bA (xW cI cC cG ad pa x) = A at hD ⊢
  have hS : va_S A s.heap s.heap [] := va_S.rf
  have hP : bP (dC, dI) vwCl (xW cI cC cG ad pa x) s.heap := hP
  have hl := lv_entry ([.ref (ad 0 0), .int a, .int b]) (n := 16) (Nat.le_of_ble_eq_true rfl)
  rw [lg_entry_eq]
  generalize (lg_sl ([.ref (ad 0 0), .int a, .int b]) ++ List.replicate (16 - (lg_sl ([.ref (ad 0 0), .int a, .int b])).length) Slot.unset).toArray = ls at hl ⊢
  have hl : lv_has ls 16 [(0, .ref (ad 0 0)), (1, .int a), (2, .int b)] := hl
  rw [X_turn] at hres
  refine lv_iload_n hx hb dL_turn_0 rfl (lv_at hl 2 rfl) ?_
  obtain ⟨r_1, hr_1⟩ : ∃ z, z = (F_Law_joint b) := ⟨_, rfl⟩
  rw [bnd_e hr_1] at hres
  refine b_roi (va_runS (As := [.int b]) (rest := []) ⟨hx, hb, hml, hown, hts⟩ (c_Law_joint l dC dI cI cC cG cZ b  r_1 hr_1) (va_cwS 1 hts gL_turn_L_joint rfl rfl rfl (by decide +kernel) ⟨Nat.le_of_ble_eq_true rfl, Nat.le_of_ble_eq_true rfl⟩) (ro_preS (w_nil (dC, dI) vwCl) hK) rfl rfl hl.1 rfl (lv_room (Nat.le_of_ble_eq_true rfl)) dL_turn_1 ⟨Nat.zero_le _, Nat.zero_le _⟩) hP hS (fun H locs hP hS => ?_)
  refine lv_istore_n (lv' := [(3, .int r_1), (0, .ref (ad 0 0)), (1, .int a), (2, .int b)]) hx hb dL_turn_4 rfl hl (by decide) rfl (fun ls hl => ?_)
  refine lv_aload_n hx hb dL_turn_5 rfl (lv_at hl 1 rfl) ?_
  refine lv_iconst (v := 1) hx hb dL_turn_6 (by decide) ?_
  obtain ⟨r_2, hr_2⟩ : ∃ z, z = (F_TC_count (1 : Int32) (x.1.1 0) (x.1.1 1) (x.1.2.1 0) (x.1.2.1 1) (x.1.2.1 2) (x.1.2.2 0) (x.1.1 3) (x.1.1 11) x.2.2.2.2.2.1 (nI x.2.1)) := ⟨_, rfl⟩
  rw [bnd_e hr_2] at hres
  refine b_alle hr_2 (W1 := fun pa => (xW cI cC cG ad pa x)) (va_runV (As := [.int 1]) (rest := []) ⟨hx, hb, hml, hown, hts⟩ (cu_TC_count l dC dI cI cC cG cZ ad pa x (1 : Int32) ) (cwV 1 hts gL_turn_X6_count rfl rfl rfl (by decide +kernel) ⟨Nat.le_of_ble_eq_true rfl, Nat.le_of_ble_eq_true rfl⟩) (b_preV hP hK hD (ci := 6) (i0 := 0) (q0 := 0) rfl rfl rfl) rfl rfl hl.1 rfl (lv_room (Nat.le_of_ble_eq_true rfl)) dL_turn_7 ⟨Nat.zero_le _, Nat.zero_le _⟩) hD hS (fun H locs pa hP hD hS => ?_)
  have hP : bP (dC, dI) vwCl (xW cI cC cG ad pa x) H := hP
  have hD : bD A (xW cI cC cG ad pa x) := hD
  refine lv_istore (lv' := [(4, .int r_2), (3, .int r_1), (0, .ref (ad 0 0)), (1, .int a), (2, .int b)]) hx hb dL_turn_10 hl (by decide) rfl (fun ls hl => ?_)
  refine lv_aload_n hx hb dL_turn_12 rfl (lv_at hl 2 rfl) ?_
  refine lv_iload hx hb dL_turn_13 (lv_at hl 0 rfl) ?_
  refine lv_iconst (v := 0) hx hb dL_turn_15 (by decide) ?_
  obtain ⟨r_3, hr_3⟩ : ∃ z, z = (F_TC_player r_2 (0 : Int32) (x.1.1 2) (x.1.1 3) (x.1.1 4) (x.1.1 5) (x.1.1 6) (x.1.1 7) (x.1.1 8) (x.1.1 9) (x.1.1 10) (x.1.1 11) (x.1.1 12) (x.1.1 13) (x.1.1 14) (x.1.1 15) (x.1.1 16) (x.1.1 17)) := ⟨_, rfl⟩
  rw [bnd_e hr_3] at hres
  refine b_alle hr_3 (W1 := fun pa => (xW cI cC cG ad pa x)) (va_runV (As := [.int r_2, .int 0]) (rest := []) ⟨hx, hb, hml, hown, hts⟩ (cu_TC_player l dC dI cI cC cG cZ ad pa x r_2 (0 : Int32) ) (cwV 2 hts gL_turn_X6_player rfl rfl rfl (by decide +kernel) ⟨Nat.le_of_ble_eq_true rfl, Nat.le_of_ble_eq_true rfl⟩) (b_preV hP hK hD (ci := 6) (i0 := 0) (q0 := 0) rfl rfl rfl) rfl rfl hl.1 rfl (lv_room (Nat.le_of_ble_eq_true rfl)) dL_turn_16 ⟨Nat.zero_le _, Nat.zero_le _⟩) hD hS (fun H locs pa hP hD hS => ?_)
  have hP : bP (dC, dI) vwCl (xW cI cC cG ad pa x) H := hP
  have hD : bD A (xW cI cC cG ad pa x) := hD
  refine lv_istore (lv' := [(5, .int r_3), (4, .int r_2), (3, .int r_1), (0, .ref (ad 0 0)), (1, .int a), (2, .int b)]) hx hb dL_turn_19 hl (by decide) rfl (fun ls hl => ?_)
  refine lv_aload_n hx hb dL_turn_21 rfl (lv_at hl 3 rfl) ?_
  refine lv_iconst (v := 1) hx hb dL_turn_22 (by decide) ?_
  refine lv_iload hx hb dL_turn_23 (lv_at hl 1 rfl) ?_
  refine lv_isub hx hb dL_turn_25 ?_
  refine lv_iconst (v := 0) hx hb dL_turn_26 (by decide) ?_
  obtain ⟨r_4, hr_4⟩ : ∃ z, z = (F_TC_player ((1 : Int32) - r_2) (0 : Int32) (x.1.1 2) (x.1.1 3) (x.1.1 4) (x.1.1 5) (x.1.1 6) (x.1.1 7) (x.1.1 8) (x.1.1 9) (x.1.1 10) (x.1.1 11) (x.1.1 12) (x.1.1 13) (x.1.1 14) (x.1.1 15) (x.1.1 16) (x.1.1 17)) := ⟨_, rfl⟩
  rw [bnd_e hr_4] at hres
  refine b_alle hr_4 (W1 := fun pa => (xW cI cC cG ad pa x)) (va_runV (As := [.int ((1 : Int32) - r_2), .int 0]) (rest := []) ⟨hx, hb, hml, hown, hts⟩ (cu_TC_player l dC dI cI cC cG cZ ad pa x ((1 : Int32) - r_2) (0 : Int32) ) (cwV 2 hts gL_turn_X6_player rfl rfl rfl (by decide +kernel) ⟨Nat.le_of_ble_eq_true rfl, Nat.le_of_ble_eq_true rfl⟩) (b_preV hP hK hD (ci := 6) (i0 := 0) (q0 := 0) rfl rfl rfl) rfl rfl hl.1 rfl (lv_room (Nat.le_of_ble_eq_true rfl)) dL_turn_27 ⟨Nat.zero_le _, Nat.zero_le _⟩) hD hS (fun H locs pa hP hD hS => ?_)
  have hP : bP (dC, dI) vwCl (xW cI cC cG ad pa x) H := hP
  have hD : bD A (xW cI cC cG ad pa x) := hD
  refine lv_istore (lv' := [(6, .int r_4), (5, .int r_3), (4, .int r_2), (3, .int r_1), (0, .ref (ad 0 0)), (1, .int a), (2, .int b)]) hx hb dL_turn_30 hl (by decide) rfl (fun ls hl => ?_)
  refine lv_aload_n hx hb dL_turn_32 rfl (lv_at hl 4 rfl) ?_
  refine lv_iconst (v := 0) hx hb dL_turn_33 (by decide) ?_
  obtain ⟨r_5, hr_5⟩ : ∃ z, z = (F_TC_count (0 : Int32) (x.1.1 0) (x.1.1 1) (x.1.2.1 0) (x.1.2.1 1) (x.1.2.1 2) (x.1.2.2 0) (x.1.1 3) (x.1.1 11) x.2.2.2.2.2.1 (nI x.2.1)) := ⟨_, rfl⟩
  rw [bnd_e hr_5] at hres
  refine b_alle hr_5 (W1 := fun pa => (xW cI cC cG ad pa x)) (va_runV (As := [.int 0]) (rest := []) ⟨hx, hb, hml, hown, hts⟩ (cu_TC_count l dC dI cI cC cG cZ ad pa x (0 : Int32) ) (cwV 1 hts gL_turn_X6_count rfl rfl rfl (by decide +kernel) ⟨Nat.le_of_ble_eq_true rfl, Nat.le_of_ble_eq_true rfl⟩) (b_preV hP hK hD (ci := 6) (i0 := 0) (q0 := 0) rfl rfl rfl) rfl rfl hl.1 rfl (lv_room (Nat.le_of_ble_eq_true rfl)) dL_turn_34 ⟨Nat.zero_le _, Nat.zero_le _⟩) hD hS (fun H locs pa hP hD hS => ?_)
  have hP : bP (dC, dI) vwCl (xW cI cC cG ad pa x) H := hP
  have hD : bD A (xW cI cC cG ad pa x) := hD
  refine lv_istore (lv' := [(7, .int r_5), (6, .int r_4), (5, .int r_3), (4, .int r_2), (3, .int r_1), (0, .ref (ad 0 0)), (1, .int a), (2, .int b)]) hx hb dL_turn_37 hl (by decide) rfl (fun ls hl => ?_)
  obtain ⟨v_8, hv_8⟩ : ∃ z : Int32, z = (bnd (F_TC_count (2 : Int32) (x.1.1 0) (x.1.1 1) (x.1.2.1 0) (x.1.2.1 1) (x.1.2.1 2) (x.1.2.2 0) (x.1.1 3) (x.1.1 11) x.2.2.2.2.2.1 (nI x.2.1)) (fun r_6 => (if r_6 = 1 then 1 else 0))) := ⟨_, rfl⟩
  rw [bnd_e hv_8] at hres
  have hj53 : ∀ (H : Heap) (locs : List Loc) (ls : Array Slot) (pa : Nat → Nat → Nat), bP (dC, dI) vwCl (xW cI cC cG ad pa x) H → bD A (xW cI cC cG ad pa x) → va_S A s.heap H locs → lv_has ls 16 [(7, .int r_5), (6, .int r_4), (5, .int r_3), (4, .int r_2), (3, .int r_1), (0, .ref (ad 0 0)), (1, .int a), (2, .int b)] → W p l e (headSpec wsL_turn ({ frames := 8, cells := 0, slots := 0, locals := 171 })).room s m ([.ref (ad 0 0), .int a, .int b] : List Value).toArray below meth c H locs 0 0 (MQ below (bQi (dC, dI) vwCl res.1 (fun pa => (xW cI cC cG ad pa res.2)) A) ([.ref (ad 0 0), .int a, .int b] : List Value).toArray s 0 0 A) (F0 m 53 ls [.int v_8]) := by
    intro H locs ls pa hP hD hS hl
    refine lv_istore (lv' := [(8, .int v_8), (7, .int r_5), (6, .int r_4), (5, .int r_3), (4, .int r_2), (3, .int r_1), (0, .ref (ad 0 0)), (1, .int a), (2, .int b)]) hx hb dL_turn_53 hl (by decide) rfl (fun ls hl => ?_)
    refine lv_aload_n hx hb dL_turn_55 rfl (lv_at hl 6 rfl) ?_
    refine lv_iload_n hx hb dL_turn_56 rfl (lv_at hl 5 rfl) ?_
    refine lv_iconst (v := 0) hx hb dL_turn_57 (by decide) ?_
    obtain ⟨r_9, hr_9⟩ : ∃ z, z = (F_TC_of r_1 (0 : Int32) (x.1.1 1) (x.1.2.1 0) (x.1.2.1 1) (x.1.2.1 2) (x.1.2.2 0) (x.1.2.2 1) (x.1.1 2) (x.1.2.2 2) (x.1.1 10) (x.1.2.2 3)) := ⟨_, rfl⟩
    rw [bnd_e hr_9] at hres
    refine b_alle hr_9 (W1 := fun pa => (xW cI cC cG ad pa x)) (va_runV (As := [.int r_1, .int 0]) (rest := []) ⟨hx, hb, hml, hown, hts⟩ (cu_TC_of l dC dI cI cC cG cZ ad pa x r_1 (0 : Int32) hI.1.1 hI.1.2) (cwV 2 hts gL_turn_X6_of rfl rfl rfl (by decide +kernel) ⟨Nat.le_of_ble_eq_true rfl, Nat.le_of_ble_eq_true rfl⟩) (b_preV hP hK hD (ci := 6) (i0 := 0) (q0 := 0) rfl rfl rfl) rfl rfl hl.1 rfl (lv_room (Nat.le_of_ble_eq_true rfl)) dL_turn_58 ⟨Nat.zero_le _, Nat.zero_le _⟩) hD hS (fun H locs pa hP hD hS => ?_)
    have hP : bP (dC, dI) vwCl (xW cI cC cG ad pa x) H := hP
    have hD : bD A (xW cI cC cG ad pa x) := hD
    refine lv_istore (lv' := [(9, .int r_9), (8, .int v_8), (7, .int r_5), (6, .int r_4), (5, .int r_3), (4, .int r_2), (3, .int r_1), (0, .ref (ad 0 0)), (1, .int a), (2, .int b)]) hx hb dL_turn_61 hl (by decide) rfl (fun ls hl => ?_)
    obtain ⟨v_14, hv_14⟩ : ∃ z : Int32, z = (if v_8 = 0 then (if (82 : Int32) ≤ r_1 then 0 else (bnd (F_TC_of r_1 (1 : Int32) (x.1.1 1) (x.1.2.1 0) (x.1.2.1 1) (x.1.2.1 2) (x.1.2.2 0) (x.1.2.2 1) (x.1.1 2) (x.1.2.2 2) (x.1.1 10) (x.1.2.2 3)) (fun r_12 => (if r_12 = 0 then 1 else 0)))) else 0) := ⟨_, rfl⟩
    rw [bnd_e hv_14] at hres
    have hj88 : ∀ (H : Heap) (locs : List Loc) (ls : Array Slot) (pa : Nat → Nat → Nat), bP (dC, dI) vwCl (xW cI cC cG ad pa x) H → bD A (xW cI cC cG ad pa x) → va_S A s.heap H locs → lv_has ls 16 [(9, .int r_9), (8, .int v_8), (7, .int r_5), (6, .int r_4), (5, .int r_3), (4, .int r_2), (3, .int r_1), (0, .ref (ad 0 0)), (1, .int a), (2, .int b)] → W p l e (headSpec wsL_turn ({ frames := 8, cells := 0, slots := 0, locals := 171 })).room s m ([.ref (ad 0 0), .int a, .int b] : List Value).toArray below meth c H locs 0 0 (MQ below (bQi (dC, dI) vwCl res.1 (fun pa => (xW cI cC cG ad pa res.2)) A) ([.ref (ad 0 0), .int a, .int b] : List Value).toArray s 0 0 A) (F0 m 88 ls [.int v_14]) := by
      intro H locs ls pa hP hD hS hl
      refine lv_istore (lv' := [(10, .int v_14), (9, .int r_9), (8, .int v_8), (7, .int r_5), (6, .int r_4), (5, .int r_3), (4, .int r_2), (3, .int r_1), (0, .ref (ad 0 0)), (1, .int a), (2, .int b)]) hx hb dL_turn_88 hl (by decide) rfl (fun ls hl => ?_)
      refine lv_iconst (v := 0) hx hb dL_turn_90 (by decide) ?_
      refine lv_istore (lv' := [(11, .int 0), (10, .int v_14), (9, .int r_9), (8, .int v_8), (7, .int r_5), (6, .int r_4), (5, .int r_3), (4, .int r_2), (3, .int r_1), (0, .ref (ad 0 0)), (1, .int a), (2, .int b)]) hx hb dL_turn_91 hl (by decide) rfl (fun ls hl => ?_)
      refine lv_iconst (v := 0) hx hb dL_turn_93 (by decide) ?_
      refine lv_istore (lv' := [(12, .int 0), (11, .int 0), (10, .int v_14), (9, .int r_9), (8, .int v_8), (7, .int r_5), (6, .int r_4), (5, .int r_3), (4, .int r_2), (3, .int r_1), (0, .ref (ad 0 0)), (1, .int a), (2, .int b)]) hx hb dL_turn_94 hl (by decide) rfl (fun ls hl => ?_)
      refine lv_iconst (v := 0) hx hb dL_turn_96 (by decide) ?_
      refine lv_istore (lv' := [(13, .int 0), (12, .int 0), (11, .int 0), (10, .int v_14), (9, .int r_9), (8, .int v_8), (7, .int r_5), (6, .int r_4), (5, .int r_3), (4, .int r_2), (3, .int r_1), (0, .ref (ad 0 0)), (1, .int a), (2, .int b)]) hx hb dL_turn_97 hl (by decide) rfl (fun ls hl => ?_)
      obtain ⟨v_336, hv_336⟩ : ∃ z : Int32 × Int32 × Int32 × XS, z = (bnd (F_Law_low a (16 : Int32)) (fun r_15 => (if r_15 = 0 then (bnd ((if (82 : Int32) ≤ r_1 then 0 else (bnd (F_TC_of r_1 (4 : Int32) (x.1.1 1) (x.1.2.1 0) (x.1.2.1 1) (x.1.2.1 2) (x.1.2.2 0) (x.1.2.2 1) (x.1.1 2) (x.1.2.2 2) (x.1.1 10) (x.1.2.2 3)) (fun r_18 => (if ((r_18 >>> (r_2 &&& 31)) &&& 1) = 1 then 1 else 0)))) : Int32) (fun v_20 => (bnd ((if r_1 = 82 then (-1) else (if v_14 = 0 then (-5) else (bnd (F_TC_of r_1 (6 : Int32) (x.1.1 1) (x.1.2.1 0) (x.1.2.1 1) (x.1.2.1 2) (x.1.2.2 0) (x.1.2.2 1) (x.1.1 2) (x.1.2.2 2) (x.1.1 10) (x.1.2.2 3)) (fun r_23 => (if r_23 = 0 then (-5) else (if v_20 = 0 then (bnd (F_TC_player r_2 (2 : Int32) (x.1.1 2) (x.1.1 3) (x.1.1 4) (x.1.1 5) (x.1.1 6) (x.1.1 7) (x.1.1 8) (x.1.1 9) (x.1.1 10) (x.1.1 11) (x.1.1 12) (x.1.1 13) (x.1.1 14) (x.1.1 15) (x.1.1 16) (x.1.1 17)) (fun r_26 => (if r_26 = 8 then (-4) else (bnd (F_TC_player r_2 (2 : Int32) (x.1.1 2) (x.1.1 3) (x.1.1 4) (x.1.1 5) (x.1.1 6) (x.1.1 7) (x.1.1 8) (x.1.1 9) (x.1.1 10) (x.1.1 11) (x.1.1 12) (x.1.1 13) (x.1.1 14) (x.1.1 15) (x.1.1 16) (x.1.1 17)) (fun r_28 => (r_28 + 1)))))) else (-5))))))) : Int32) (fun v_29 => (bnd (X_chalk r_1 x) (fun r_30 => (r_30.1, v_29, 0, r_30.2))))))) else (if r_15 = 1 then (bnd ((if (82 : Int32) ≤ r_1 then 0 else (bnd (F_TC_of r_1 (4 : Int32) (x.1.1 1) (x.1.2.1 0) (x.1.2.1 1) (x.1.2.1 2) (x.1.2.2 0) (x.1.2.2 1) (x.1.1 2) (x.1.2.2 2) (x.1.1 10) (x.1.2.2 3)) (fun r_44 => (if ((r_44 >>> (r_2 &&& 31)) &&& 1) = 1 then 1 else 0)))) : Int32) (fun v_46 => (bnd ((if r_1 = 82 then (-1) else (if v_14 = 0 then (-5) else (bnd (F_TC_of r_1 (6 : Int32) (x.1.1 1) (x.1.2.1 0) (x.1.2.1 1) (x.1.2.1 2) (x.1.2.2 0) (x.1.2.2 1) (x.1.1 2) (x.1.2.2 2) (x.1.1 10) (x.1.2.2 3)) (fun r_49 => (if r_49 = 0 then (-5) else (if v_46 = 0 then (bnd (F_TC_player r_2 (2 : Int32) (x.1.1 2) (x.1.1 3) (x.1.1 4) (x.1.1 5) (x.1.1 6) (x.1.1 7) (x.1.1 8) (x.1.1 9) (x.1.1 10) (x.1.1 11) (x.1.1 12) (x.1.1 13) (x.1.1 14) (x.1.1 15) (x.1.1 16) (x.1.1 17)) (fun r_52 => (if r_52 = 8 then (-4) else (bnd (F_TC_player r_2 (2 : Int32) (x.1.1 2) (x.1.1 3) (x.1.1 4) (x.1.1 5) (x.1.1 6) (x.1.1 7) (x.1.1 8) (x.1.1 9) (x.1.1 10) (x.1.1 11) (x.1.1 12) (x.1.1 13) (x.1.1 14) (x.1.1 15) (x.1.1 16) (x.1.1 17)) (fun r_54 => (r_54 + 1)))))) else (-5))))))) : Int32) (fun v_55 => (bnd (X_chalk r_1 x) (fun r_56 => (r_56.1, v_55, 0, r_56.2))))))) else (if r_15 = 2 then (bnd ((if (82 : Int32) ≤ r_1 then 0 else (bnd (F_TC_of r_1 (4 : Int32) (x.1.1 1) (x.1.2.1 0) (x.1.2.1 1) (x.1.2.1 2) (x.1.2.2 0) (x.1.2.2 1) (x.1.1 2) (x.1.2.2 2) (x.1.1 10) (x.1.2.2 3)) (fun r_70 => (if ((r_70 >>> (r_2 &&& 31)) &&& 1) = 1 then 1 else 0)))) : Int32) (fun v_72 => (bnd ((if r_1 = 82 then (-1) else (if v_14 = 0 then (-5) else (bnd (F_TC_of r_1 (6 : Int32) (x.1.1 1) (x.1.2.1 0) (x.1.2.1 1) (x.1.2.1 2) (x.1.2.2 0) (x.1.2.2 1) (x.1.1 2) (x.1.2.2 2) (x.1.1 10) (x.1.2.2 3)) (fun r_75 => (if r_75 = 0 then (-5) else (if v_72 = 0 then (bnd (F_TC_player r_2 (2 : Int32) (x.1.1 2) (x.1.1 3) (x.1.1 4) (x.1.1 5) (x.1.1 6) (x.1.1 7) (x.1.1 8) (x.1.1 9) (x.1.1 10) (x.1.1 11) (x.1.1 12) (x.1.1 13) (x.1.1 14) (x.1.1 15) (x.1.1 16) (x.1.1 17)) (fun r_78 => (if r_78 = 8 then (-4) else (bnd (F_TC_player r_2 (2 : Int32) (x.1.1 2) (x.1.1 3) (x.1.1 4) (x.1.1 5) (x.1.1 6) (x.1.1 7) (x.1.1 8) (x.1.1 9) (x.1.1 10) (x.1.1 11) (x.1.1 12) (x.1.1 13) (x.1.1 14) (x.1.1 15) (x.1.1 16) (x.1.1 17)) (fun r_80 => (r_80 + 1)))))) else (-5))))))) : Int32) (fun v_81 => (bnd (X_chalk r_1 x) (fun r_82 => (r_82.1, v_81, 0, r_82.2))))))) else (if r_15 = 3 then (bnd (F_TC_ifSnipped r_1 (x.1.1 1) (x.1.2.1 0) (x.1.2.1 1) (x.1.2.1 2) (x.1.2.2 0)) (fun r_95 => (bnd ((if (0 : Int32) ≤ r_95 then (bnd ((bnd (F_TC_of r_1 (4 : Int32) (x.1.1 1) (x.1.2.1 0) (x.1.2.1 1) (x.1.2.1 2) (x.1.2.2 0) (x.1.2.2 1) (x.1.1 2) (x.1.2.2 2) (x.1.1 10) (x.1.2.2 3)) (fun r_97 => (if ((r_97 >>> (r_2 &&& 31)) &&& 1) = 1 then 1 else 0))) : Int32) (fun v_99 => (bnd ((bnd (F_TC_of r_1 (4 : Int32) (x.1.1 1) (x.1.2.1 0) (x.1.2.1 1) (x.1.2.1 2) (x.1.2.2 0) (x.1.2.2 1) (x.1.1 2) (x.1.2.2 2) (x.1.1 10) (x.1.2.2 3)) (fun r_100 => (if ((r_100 >>> (((1 : Int32) - r_2) &&& 31)) &&& 1) = 1 then 3 else 0))) : Int32) (fun v_102 => ((r_95 + v_99) - v_102))))) else 0) : Int32) (fun v_107 => (bnd (X_snip r_1 x) (fun r_108 => (r_108.1, r_95, v_107, r_108.2))))))) else (if r_15 = 4 then (bnd (F_TC_ifSnipped r_1 (x.1.1 1) (x.1.2.1 0) (x.1.2.1 1) (x.1.2.1 2) (x.1.2.2 0)) (fun r_121 => (bnd ((if (0 : Int32) ≤ r_121 then (bnd ((bnd (F_TC_of r_1 (4 : Int32) (x.1.1 1) (x.1.2.1 0) (x.1.2.1 1) (x.1.2.1 2) (x.1.2.2 0) (x.1.2.2 1) (x.1.1 2) (x.1.2.2 2) (x.1.1 10) (x.1.2.2 3)) (fun r_123 => (if ((r_123 >>> (r_2 &&& 31)) &&& 1) = 1 then 1 else 0))) : Int32) (fun v_125 => (bnd ((bnd (F_TC_of r_1 (4 : Int32) (x.1.1 1) (x.1.2.1 0) (x.1.2.1 1) (x.1.2.1 2) (x.1.2.2 0) (x.1.2.2 1) (x.1.1 2) (x.1.2.2 2) (x.1.1 10) (x.1.2.2 3)) (fun r_126 => (if ((r_126 >>> (((1 : Int32) - r_2) &&& 31)) &&& 1) = 1 then 3 else 0))) : Int32) (fun v_128 => ((r_121 + v_125) - v_128))))) else 0) : Int32) (fun v_133 => (bnd (X_snip r_1 x) (fun r_134 => (r_134.1, r_121, v_133, r_134.2))))))) else (if r_15 = 5 then (bnd (F_TC_ifSnipped r_1 (x.1.1 1) (x.1.2.1 0) (x.1.2.1 1) (x.1.2.1 2) (x.1.2.2 0)) (fun r_147 => (bnd ((if (0 : Int32) ≤ r_147 then (bnd ((bnd (F_TC_of r_1 (4 : Int32) (x.1.1 1) (x.1.2.1 0) (x.1.2.1 1) (x.1.2.1 2) (x.1.2.2 0) (x.1.2.2 1) (x.1.1 2) (x.1.2.2 2) (x.1.1 10) (x.1.2.2 3)) (fun r_149 => (if ((r_149 >>> (r_2 &&& 31)) &&& 1) = 1 then 1 else 0))) : Int32) (fun v_151 => (bnd ((bnd (F_TC_of r_1 (4 : Int32) (x.1.1 1) (x.1.2.1 0) (x.1.2.1 1) (x.1.2.1 2) (x.1.2.2 0) (x.1.2.2 1) (x.1.1 2) (x.1.2.2 2) (x.1.1 10) (x.1.2.2 3)) (fun r_152 => (if ((r_152 >>> (((1 : Int32) - r_2) &&& 31)) &&& 1) = 1 then 3 else 0))) : Int32) (fun v_154 => ((r_147 + v_151) - v_154))))) else 0) : Int32) (fun v_159 => (bnd (X_snip r_1 x) (fun r_160 => (r_160.1, r_147, v_159, r_160.2))))))) else (if r_15 = 6 then (bnd (F_TC_ifSnipped r_1 (x.1.1 1) (x.1.2.1 0) (x.1.2.1 1) (x.1.2.1 2) (x.1.2.2 0)) (fun r_173 => (bnd ((if (0 : Int32) ≤ r_173 then (bnd ((bnd (F_TC_of r_1 (4 : Int32) (x.1.1 1) (x.1.2.1 0) (x.1.2.1 1) (x.1.2.1 2) (x.1.2.2 0) (x.1.2.2 1) (x.1.1 2) (x.1.2.2 2) (x.1.1 10) (x.1.2.2 3)) (fun r_175 => (if ((r_175 >>> (r_2 &&& 31)) &&& 1) = 1 then 1 else 0))) : Int32) (fun v_177 => (bnd ((bnd (F_TC_of r_1 (4 : Int32) (x.1.1 1) (x.1.2.1 0) (x.1.2.1 1) (x.1.2.1 2) (x.1.2.2 0) (x.1.2.2 1) (x.1.1 2) (x.1.2.2 2) (x.1.1 10) (x.1.2.2 3)) (fun r_178 => (if ((r_178 >>> (((1 : Int32) - r_2) &&& 31)) &&& 1) = 1 then 3 else 0))) : Int32) (fun v_180 => ((r_173 + v_177) - v_180))))) else 0) : Int32) (fun v_185 => (bnd (X_snip r_1 x) (fun r_186 => (r_186.1, r_173, v_185, r_186.2))))))) else (if r_15 = 7 then (bnd (F_TC_ifSnipped r_1 (x.1.1 1) (x.1.2.1 0) (x.1.2.1 1) (x.1.2.1 2) (x.1.2.2 0)) (fun r_199 => (bnd ((if (0 : Int32) ≤ r_199 then (bnd ((bnd (F_TC_of r_1 (4 : Int32) (x.1.1 1) (x.1.2.1 0) (x.1.2.1 1) (x.1.2.1 2) (x.1.2.2 0) (x.1.2.2 1) (x.1.1 2) (x.1.2.2 2) (x.1.1 10) (x.1.2.2 3)) (fun r_201 => (if ((r_201 >>> (r_2 &&& 31)) &&& 1) = 1 then 1 else 0))) : Int32) (fun v_203 => (bnd ((bnd (F_TC_of r_1 (4 : Int32) (x.1.1 1) (x.1.2.1 0) (x.1.2.1 1) (x.1.2.1 2) (x.1.2.2 0) (x.1.2.2 1) (x.1.1 2) (x.1.2.2 2) (x.1.1 10) (x.1.2.2 3)) (fun r_204 => (if ((r_204 >>> (((1 : Int32) - r_2) &&& 31)) &&& 1) = 1 then 3 else 0))) : Int32) (fun v_206 => ((r_199 + v_203) - v_206))))) else 0) : Int32) (fun v_211 => (bnd (X_snip r_1 x) (fun r_212 => (r_212.1, r_199, v_211, r_212.2))))))) else (if r_15 = 8 then (bnd (F_TC_ifSnipped r_1 (x.1.1 1) (x.1.2.1 0) (x.1.2.1 1) (x.1.2.1 2) (x.1.2.2 0)) (fun r_225 => (bnd ((if (0 : Int32) ≤ r_225 then (bnd ((bnd (F_TC_of r_1 (4 : Int32) (x.1.1 1) (x.1.2.1 0) (x.1.2.1 1) (x.1.2.1 2) (x.1.2.2 0) (x.1.2.2 1) (x.1.1 2) (x.1.2.2 2) (x.1.1 10) (x.1.2.2 3)) (fun r_227 => (if ((r_227 >>> (r_2 &&& 31)) &&& 1) = 1 then 1 else 0))) : Int32) (fun v_229 => (bnd ((bnd (F_TC_of r_1 (4 : Int32) (x.1.1 1) (x.1.2.1 0) (x.1.2.1 1) (x.1.2.1 2) (x.1.2.2 0) (x.1.2.2 1) (x.1.1 2) (x.1.2.2 2) (x.1.1 10) (x.1.2.2 3)) (fun r_230 => (if ((r_230 >>> (((1 : Int32) - r_2) &&& 31)) &&& 1) = 1 then 3 else 0))) : Int32) (fun v_232 => ((r_225 + v_229) - v_232))))) else 0) : Int32) (fun v_237 => (bnd (X_snip r_1 x) (fun r_238 => (r_238.1, r_225, v_237, r_238.2))))))) else (if r_15 = 9 then (bnd (F_TC_player r_2 (1 : Int32) (x.1.1 2) (x.1.1 3) (x.1.1 4) (x.1.1 5) (x.1.1 6) (x.1.1 7) (x.1.1 8) (x.1.1 9) (x.1.1 10) (x.1.1 11) (x.1.1 12) (x.1.1 13) (x.1.1 14) (x.1.1 15) (x.1.1 16) (x.1.1 17)) (fun r_251 => (bnd ((if r_1 = 82 then (-1) else (if v_14 = 0 then (-5) else (if r_9 = 1 then (if r_251 = 0 then (-5) else (r_251 - 1)) else (-5)))) : Int32) (fun v_256 => (bnd (X_sew r_1 x) (fun r_257 => (r_257.1, v_256, 0, r_257.2))))))) else (if r_15 = 10 then (bnd (F_TC_player r_2 (1 : Int32) (x.1.1 2) (x.1.1 3) (x.1.1 4) (x.1.1 5) (x.1.1 6) (x.1.1 7) (x.1.1 8) (x.1.1 9) (x.1.1 10) (x.1.1 11) (x.1.1 12) (x.1.1 13) (x.1.1 14) (x.1.1 15) (x.1.1 16) (x.1.1 17)) (fun r_263 => (bnd ((if r_1 = 82 then (-1) else (if v_14 = 0 then (-5) else (if r_9 = 1 then (if r_263 = 0 then (-5) else (r_263 - 1)) else (-5)))) : Int32) (fun v_268 => (bnd (X_sew r_1 x) (fun r_269 => (r_269.1, v_268, 0, r_269.2))))))) else (if r_15 = 11 then (bnd ((if r_1 = 82 then (-1) else (if v_14 = 0 then (-5) else (if r_9 = 1 then (bnd (F_TC_count (8 : Int32) (x.1.1 0) (x.1.1 1) (x.1.2.1 0) (x.1.2.1 1) (x.1.2.1 2) (x.1.2.2 0) (x.1.1 3) (x.1.1 11) x.2.2.2.2.2.1 (nI x.2.1)) (fun r_278 => (r_278 + 1))) else (-5)))) : Int32) (fun v_279 => (bnd (X_bluff r_1 x) (fun r_280 => (r_280.1, v_279, 0, r_280.2))))) else (if r_15 = 12 then (bnd ((if r_1 = 82 then (-1) else (if v_14 = 0 then (-5) else (if r_9 = 1 then (bnd (F_TC_count (8 : Int32) (x.1.1 0) (x.1.1 1) (x.1.2.1 0) (x.1.2.1 1) (x.1.2.1 2) (x.1.2.2 0) (x.1.1 3) (x.1.1 11) x.2.2.2.2.2.1 (nI x.2.1)) (fun r_289 => (r_289 + 1))) else (-5)))) : Int32) (fun v_290 => (bnd (X_bluff r_1 x) (fun r_291 => (r_291.1, v_290, 0, r_291.2))))) else (if r_15 = 13 then (bnd ((if r_1 = 82 then (-1) else (if v_14 = 0 then (-5) else (bnd (F_TC_of r_1 (5 : Int32) (x.1.1 1) (x.1.2.1 0) (x.1.2.1 1) (x.1.2.1 2) (x.1.2.2 0) (x.1.2.2 1) (x.1.1 2) (x.1.2.2 2) (x.1.1 10) (x.1.2.2 3)) (fun r_299 => (if r_299 = ((1 : Int32) - r_2) then (if r_9 = 3 then 1 else 0) else (-5)))))) : Int32) (fun v_302 => (bnd ((if (0 : Int32) ≤ v_302 then (if v_302 = 1 then 2 else (-2)) else 0) : Int32) (fun v_305 => (bnd (X_doubt r_1 x) (fun r_306 => (r_306.1, v_302, v_305, r_306.2))))))) else (if r_15 = 14 then (bnd ((if r_1 = 82 then (-1) else (if v_14 = 0 then (-5) else (bnd (F_TC_of r_1 (5 : Int32) (x.1.1 1) (x.1.2.1 0) (x.1.2.1 1) (x.1.2.1 2) (x.1.2.2 0) (x.1.2.2 1) (x.1.1 2) (x.1.2.2 2) (x.1.1 10) (x.1.2.2 3)) (fun r_317 => (if r_317 = ((1 : Int32) - r_2) then (if r_9 = 3 then 1 else 0) else (-5)))))) : Int32) (fun v_320 => (bnd ((if (0 : Int32) ≤ v_320 then (if v_320 = 1 then 2 else (-2)) else 0) : Int32) (fun v_323 => (bnd (X_doubt r_1 x) (fun r_324 => (r_324.1, v_320, v_323, r_324.2))))))) else (bnd ((if v_8 = 0 then ((1 : Int32) - r_2) else (-5)) : Int32) (fun v_333 => (bnd (X_pass  x) (fun r_334 => (r_334.1, v_333, 0, r_334.2)))))))))))))))))))))) := ⟨_, rfl⟩
      rw [bnd_e hv_336] at hres
      have hj558 : ∀ (H : Heap) (locs : List Loc) (ls : Array Slot) (pa : Nat → Nat → Nat), IX v_336.2.2.2 → bP (dC, dI) vwCl (xW cI cC cG ad pa v_336.2.2.2) H → bD A (xW cI cC cG ad pa v_336.2.2.2) → va_S A s.heap H locs → lv_has ls 16 [(13, .int v_336.2.2.1), (12, .int v_336.2.1), (11, .int v_336.1), (10, .int v_14), (9, .int r_9), (8, .int v_8), (7, .int r_5), (6, .int r_4), (5, .int r_3), (4, .int r_2), (3, .int r_1), (0, .ref (ad 0 0)), (1, .int a), (2, .int b)] → W p l e (headSpec wsL_turn ({ frames := 8, cells := 0, slots := 0, locals := 171 })).room s m ([.ref (ad 0 0), .int a, .int b] : List Value).toArray below meth c H locs 0 0 (MQ below (bQi (dC, dI) vwCl res.1 (fun pa => (xW cI cC cG ad pa res.2)) A) ([.ref (ad 0 0), .int a, .int b] : List Value).toArray s 0 0 A) (F0 m 558 ls []) := by
        intro H locs ls pa hIv_336 hP hD hS hl
        obtain ⟨v_347, hv_347⟩ : ∃ z : Int32, z = (if v_336.1 = v_336.2.1 then (bnd (F_TC_player r_2 (0 : Int32) (v_336.2.2.2.1.1 2) (v_336.2.2.2.1.1 3) (v_336.2.2.2.1.1 4) (v_336.2.2.2.1.1 5) (v_336.2.2.2.1.1 6) (v_336.2.2.2.1.1 7) (v_336.2.2.2.1.1 8) (v_336.2.2.2.1.1 9) (v_336.2.2.2.1.1 10) (v_336.2.2.2.1.1 11) (v_336.2.2.2.1.1 12) (v_336.2.2.2.1.1 13) (v_336.2.2.2.1.1 14) (v_336.2.2.2.1.1 15) (v_336.2.2.2.1.1 16) (v_336.2.2.2.1.1 17)) (fun r_338 => (if r_338 = (r_3 + v_336.2.2.1) then (bnd (F_TC_player ((1 : Int32) - r_2) (0 : Int32) (v_336.2.2.2.1.1 2) (v_336.2.2.2.1.1 3) (v_336.2.2.2.1.1 4) (v_336.2.2.2.1.1 5) (v_336.2.2.2.1.1 6) (v_336.2.2.2.1.1 7) (v_336.2.2.2.1.1 8) (v_336.2.2.2.1.1 9) (v_336.2.2.2.1.1 10) (v_336.2.2.2.1.1 11) (v_336.2.2.2.1.1 12) (v_336.2.2.2.1.1 13) (v_336.2.2.2.1.1 14) (v_336.2.2.2.1.1 15) (v_336.2.2.2.1.1 16) (v_336.2.2.2.1.1 17)) (fun r_340 => (if r_340 = r_4 then (bnd (F_TC_count (0 : Int32) (v_336.2.2.2.1.1 0) (v_336.2.2.2.1.1 1) (v_336.2.2.2.1.2.1 0) (v_336.2.2.2.1.2.1 1) (v_336.2.2.2.1.2.1 2) (v_336.2.2.2.1.2.2 0) (v_336.2.2.2.1.1 3) (v_336.2.2.2.1.1 11) v_336.2.2.2.2.2.2.2.2.1 (nI v_336.2.2.2.2.1)) (fun r_342 => (bnd ((if (0 : Int32) ≤ v_336.2.1 then 1 else 0) : Int32) (fun v_344 => (if r_342 = (r_5 + v_344) then 1 else 0))))) else 0))) else 0))) else 0) := ⟨_, rfl⟩
        rw [bnd_e hv_347] at hres
        have hj620 : ∀ (H : Heap) (locs : List Loc) (ls : Array Slot) (pa : Nat → Nat → Nat), bP (dC, dI) vwCl (xW cI cC cG ad pa v_336.2.2.2) H → bD A (xW cI cC cG ad pa v_336.2.2.2) → va_S A s.heap H locs → lv_has ls 16 [(13, .int v_336.2.2.1), (12, .int v_336.2.1), (11, .int v_336.1), (10, .int v_14), (9, .int r_9), (8, .int v_8), (7, .int r_5), (6, .int r_4), (5, .int r_3), (4, .int r_2), (3, .int r_1), (0, .ref (ad 0 0)), (1, .int a), (2, .int b)] → W p l e (headSpec wsL_turn ({ frames := 8, cells := 0, slots := 0, locals := 171 })).room s m ([.ref (ad 0 0), .int a, .int b] : List Value).toArray below meth c H locs 0 0 (MQ below (bQi (dC, dI) vwCl res.1 (fun pa => (xW cI cC cG ad pa res.2)) A) ([.ref (ad 0 0), .int a, .int b] : List Value).toArray s 0 0 A) (F0 m 620 ls [.int v_347]) := by
          intro H locs ls pa hP hD hS hl
          refine lv_istore (lv' := [(14, .int v_347), (13, .int v_336.2.2.1), (12, .int v_336.2.1), (11, .int v_336.1), (10, .int v_14), (9, .int r_9), (8, .int v_8), (7, .int r_5), (6, .int r_4), (5, .int r_3), (4, .int r_2), (3, .int r_1), (0, .ref (ad 0 0)), (1, .int a), (2, .int b)]) hx hb dL_turn_620 hl (by decide) rfl (fun ls hl => ?_)
          refine lv_iload hx hb dL_turn_622 (lv_at hl 0 rfl) ?_
          refine lv_if_eq (tgt := 653) hx hb dL_turn_624 (by decide) (fun c_348 => ?_) (fun c_348 => ?_)
          · rw [if_pos c_348] at hres
            refine lv_iconst (v := 0) hx hb dL_turn_653 (by decide) ?_
            subst hres
            exact W.zret (v := 0) hx hb hr rfl (fun t ht hW => ⟨⟨0, (), rfl, rfl, pa, by show bP _ _ _ t.heap; rw [ht]; exact hP, hD⟩, hS.F ht⟩) hS.2.2 dL_turn_654
          · rw [if_neg c_348] at hres
            refine lv_aload_n hx hb dL_turn_627 rfl (lv_at hl 12 rfl) ?_
            refine lv_iconst (v := 1) hx hb dL_turn_628 (by decide) ?_
            obtain ⟨r_349, hr_349⟩ : ∃ z, z = (F_TC_count (1 : Int32) (v_336.2.2.2.1.1 0) (v_336.2.2.2.1.1 1) (v_336.2.2.2.1.2.1 0) (v_336.2.2.2.1.2.1 1) (v_336.2.2.2.1.2.1 2) (v_336.2.2.2.1.2.2 0) (v_336.2.2.2.1.1 3) (v_336.2.2.2.1.1 11) v_336.2.2.2.2.2.2.2.2.1 (nI v_336.2.2.2.2.1)) := ⟨_, rfl⟩
            rw [bnd_e hr_349] at hres
            refine b_alle hr_349 (W1 := fun pa => (xW cI cC cG ad pa v_336.2.2.2)) (va_runV (As := [.int 1]) (rest := []) ⟨hx, hb, hml, hown, hts⟩ (cu_TC_count l dC dI cI cC cG cZ ad pa v_336.2.2.2 (1 : Int32) ) (cwV 1 hts gL_turn_X6_count rfl rfl rfl (by decide +kernel) ⟨Nat.le_of_ble_eq_true rfl, Nat.le_of_ble_eq_true rfl⟩) (b_preV hP hK hD (ci := 6) (i0 := 0) (q0 := 0) rfl rfl rfl) rfl rfl hl.1 rfl (lv_room (Nat.le_of_ble_eq_true rfl)) dL_turn_629 ⟨Nat.zero_le _, Nat.zero_le _⟩) hD hS (fun H locs pa hP hD hS => ?_)
            have hP : bP (dC, dI) vwCl (xW cI cC cG ad pa v_336.2.2.2) H := hP
            have hD : bD A (xW cI cC cG ad pa v_336.2.2.2) := hD
            obtain ⟨v_351, hv_351⟩ : ∃ z : Int32, z = (if (0 : Int32) ≤ v_336.2.1 then ((1 : Int32) - r_2) else r_2) := ⟨_, rfl⟩
            rw [bnd_e hv_351] at hres
            have hj646 : ∀ (H : Heap) (locs : List Loc) (ls : Array Slot) (pa : Nat → Nat → Nat), bP (dC, dI) vwCl (xW cI cC cG ad pa v_336.2.2.2) H → bD A (xW cI cC cG ad pa v_336.2.2.2) → va_S A s.heap H locs → lv_has ls 16 [(14, .int v_347), (13, .int v_336.2.2.1), (12, .int v_336.2.1), (11, .int v_336.1), (10, .int v_14), (9, .int r_9), (8, .int v_8), (7, .int r_5), (6, .int r_4), (5, .int r_3), (4, .int r_2), (3, .int r_1), (0, .ref (ad 0 0)), (1, .int a), (2, .int b)] → W p l e (headSpec wsL_turn ({ frames := 8, cells := 0, slots := 0, locals := 171 })).room s m ([.ref (ad 0 0), .int a, .int b] : List Value).toArray below meth c H locs 0 0 (MQ below (bQi (dC, dI) vwCl res.1 (fun pa => (xW cI cC cG ad pa res.2)) A) ([.ref (ad 0 0), .int a, .int b] : List Value).toArray s 0 0 A) (F0 m 646 ls [.int v_351, .int r_349]) := by
              intro H locs ls pa hP hD hS hl
              refine lv_icmp_ne (tgt := 653) hx hb dL_turn_646 (by decide) (fun c_352 => ?_) (fun c_352 => ?_)
              · rw [if_neg c_352] at hres
                refine lv_iconst (v := 0) hx hb dL_turn_653 (by decide) ?_
                subst hres
                exact W.zret (v := 0) hx hb hr rfl (fun t ht hW => ⟨⟨0, (), rfl, rfl, pa, by show bP _ _ _ t.heap; rw [ht]; exact hP, hD⟩, hS.F ht⟩) hS.2.2 dL_turn_654
              · rw [if_pos c_352] at hres
                refine lv_iconst (v := 1) hx hb dL_turn_649 (by decide) ?_
                refine lv_goto (tgt := 654) hx hb dL_turn_650 (by decide) ?_
                subst hres
                exact W.zret (v := 1) hx hb hr rfl (fun t ht hW => ⟨⟨1, (), rfl, rfl, pa, by show bP _ _ _ t.heap; rw [ht]; exact hP, hD⟩, hS.F ht⟩) hS.2.2 dL_turn_654
            refine lv_iload hx hb dL_turn_632 (lv_at hl 2 rfl) ?_
            refine lv_if_ge (tgt := 642) hx hb dL_turn_634 (by decide) (fun c_353 => ?_) (fun c_353 => ?_)
            · rw [if_pos c_353] at hv_351
              refine lv_iconst (v := 1) hx hb dL_turn_642 (by decide) ?_
              refine lv_iload hx hb dL_turn_643 (lv_at hl 10 rfl) ?_
              refine lv_isub hx hb dL_turn_645 ?_
              subst hv_351
              exact hj646 _ _ _ _ hP hD hS (lv_sub hl [0, 1, 2, 3, 4, 5, 6, 7, 8, 9, 10, 11, 12, 13, 14] rfl)
            · rw [if_neg c_353] at hv_351
              refine lv_iload hx hb dL_turn_637 (lv_at hl 10 rfl) ?_
              refine lv_goto (tgt := 646) hx hb dL_turn_639 (by decide) ?_
              subst hv_351
              exact hj646 _ _ _ _ hP hD hS (lv_sub hl [0, 1, 2, 3, 4, 5, 6, 7, 8, 9, 10, 11, 12, 13, 14] rfl)
        refine lv_iload hx hb dL_turn_558 (lv_at hl 2 rfl) ?_
        refine lv_iload hx hb dL_turn_560 (lv_at hl 1 rfl) ?_
        refine lv_icmp_ne (tgt := 619) hx hb dL_turn_562 (by decide) (fun c_354 => ?_) (fun c_354 => ?_)
        · rw [if_neg c_354] at hv_347
          refine lv_iconst (v := 0) hx hb dL_turn_619 (by decide) ?_
          subst hv_347
          exact hj620 _ _ _ _ hP hD hS (lv_sub hl [0, 1, 2, 3, 4, 5, 6, 7, 8, 9, 10, 11, 12, 13] rfl)
        · rw [if_pos c_354] at hv_347
          refine lv_aload_n hx hb dL_turn_565 rfl (lv_at hl 11 rfl) ?_
          refine lv_iload hx hb dL_turn_566 (lv_at hl 9 rfl) ?_
          refine lv_iconst (v := 0) hx hb dL_turn_568 (by decide) ?_
          obtain ⟨r_355, hr_355⟩ : ∃ z, z = (F_TC_player r_2 (0 : Int32) (v_336.2.2.2.1.1 2) (v_336.2.2.2.1.1 3) (v_336.2.2.2.1.1 4) (v_336.2.2.2.1.1 5) (v_336.2.2.2.1.1 6) (v_336.2.2.2.1.1 7) (v_336.2.2.2.1.1 8) (v_336.2.2.2.1.1 9) (v_336.2.2.2.1.1 10) (v_336.2.2.2.1.1 11) (v_336.2.2.2.1.1 12) (v_336.2.2.2.1.1 13) (v_336.2.2.2.1.1 14) (v_336.2.2.2.1.1 15) (v_336.2.2.2.1.1 16) (v_336.2.2.2.1.1 17)) := ⟨_, rfl⟩
          rw [bnd_e hr_355] at hv_347
          refine b_alle hr_355 (W1 := fun pa => (xW cI cC cG ad pa v_336.2.2.2)) (va_runV (As := [.int r_2, .int 0]) (rest := []) ⟨hx, hb, hml, hown, hts⟩ (cu_TC_player l dC dI cI cC cG cZ ad pa v_336.2.2.2 r_2 (0 : Int32) ) (cwV 2 hts gL_turn_X6_player rfl rfl rfl (by decide +kernel) ⟨Nat.le_of_ble_eq_true rfl, Nat.le_of_ble_eq_true rfl⟩) (b_preV hP hK hD (ci := 6) (i0 := 0) (q0 := 0) rfl rfl rfl) rfl rfl hl.1 rfl (lv_room (Nat.le_of_ble_eq_true rfl)) dL_turn_569 ⟨Nat.zero_le _, Nat.zero_le _⟩) hD hS (fun H locs pa hP hD hS => ?_)
          have hP : bP (dC, dI) vwCl (xW cI cC cG ad pa v_336.2.2.2) H := hP
          have hD : bD A (xW cI cC cG ad pa v_336.2.2.2) := hD
          refine lv_iload hx hb dL_turn_572 (lv_at hl 8 rfl) ?_
          refine lv_iload hx hb dL_turn_574 (lv_at hl 0 rfl) ?_
          refine lv_iadd hx hb dL_turn_576 ?_
          refine lv_icmp_ne (tgt := 619) hx hb dL_turn_577 (by decide) (fun c_356 => ?_) (fun c_356 => ?_)
          · rw [if_neg c_356] at hv_347
            refine lv_iconst (v := 0) hx hb dL_turn_619 (by decide) ?_
            subst hv_347
            exact hj620 _ _ _ _ hP hD hS (lv_sub hl [0, 1, 2, 3, 4, 5, 6, 7, 8, 9, 10, 11, 12, 13] rfl)
          · rw [if_pos c_356] at hv_347
            refine lv_aload_n hx hb dL_turn_580 rfl (lv_at hl 11 rfl) ?_
            refine lv_iconst (v := 1) hx hb dL_turn_581 (by decide) ?_
            refine lv_iload hx hb dL_turn_582 (lv_at hl 9 rfl) ?_
            refine lv_isub hx hb dL_turn_584 ?_
            refine lv_iconst (v := 0) hx hb dL_turn_585 (by decide) ?_
            obtain ⟨r_357, hr_357⟩ : ∃ z, z = (F_TC_player ((1 : Int32) - r_2) (0 : Int32) (v_336.2.2.2.1.1 2) (v_336.2.2.2.1.1 3) (v_336.2.2.2.1.1 4) (v_336.2.2.2.1.1 5) (v_336.2.2.2.1.1 6) (v_336.2.2.2.1.1 7) (v_336.2.2.2.1.1 8) (v_336.2.2.2.1.1 9) (v_336.2.2.2.1.1 10) (v_336.2.2.2.1.1 11) (v_336.2.2.2.1.1 12) (v_336.2.2.2.1.1 13) (v_336.2.2.2.1.1 14) (v_336.2.2.2.1.1 15) (v_336.2.2.2.1.1 16) (v_336.2.2.2.1.1 17)) := ⟨_, rfl⟩
            rw [bnd_e hr_357] at hv_347
            refine b_alle hr_357 (W1 := fun pa => (xW cI cC cG ad pa v_336.2.2.2)) (va_runV (As := [.int ((1 : Int32) - r_2), .int 0]) (rest := []) ⟨hx, hb, hml, hown, hts⟩ (cu_TC_player l dC dI cI cC cG cZ ad pa v_336.2.2.2 ((1 : Int32) - r_2) (0 : Int32) ) (cwV 2 hts gL_turn_X6_player rfl rfl rfl (by decide +kernel) ⟨Nat.le_of_ble_eq_true rfl, Nat.le_of_ble_eq_true rfl⟩) (b_preV hP hK hD (ci := 6) (i0 := 0) (q0 := 0) rfl rfl rfl) rfl rfl hl.1 rfl (lv_room (Nat.le_of_ble_eq_true rfl)) dL_turn_586 ⟨Nat.zero_le _, Nat.zero_le _⟩) hD hS (fun H locs pa hP hD hS => ?_)
            have hP : bP (dC, dI) vwCl (xW cI cC cG ad pa v_336.2.2.2) H := hP
            have hD : bD A (xW cI cC cG ad pa v_336.2.2.2) := hD
            refine lv_iload hx hb dL_turn_589 (lv_at hl 7 rfl) ?_
            refine lv_icmp_ne (tgt := 619) hx hb dL_turn_591 (by decide) (fun c_358 => ?_) (fun c_358 => ?_)
            · rw [if_neg c_358] at hv_347
              refine lv_iconst (v := 0) hx hb dL_turn_619 (by decide) ?_
              subst hv_347
              exact hj620 _ _ _ _ hP hD hS (lv_sub hl [0, 1, 2, 3, 4, 5, 6, 7, 8, 9, 10, 11, 12, 13] rfl)
            · rw [if_pos c_358] at hv_347
              refine lv_aload_n hx hb dL_turn_594 rfl (lv_at hl 11 rfl) ?_
              refine lv_iconst (v := 0) hx hb dL_turn_595 (by decide) ?_
              obtain ⟨r_359, hr_359⟩ : ∃ z, z = (F_TC_count (0 : Int32) (v_336.2.2.2.1.1 0) (v_336.2.2.2.1.1 1) (v_336.2.2.2.1.2.1 0) (v_336.2.2.2.1.2.1 1) (v_336.2.2.2.1.2.1 2) (v_336.2.2.2.1.2.2 0) (v_336.2.2.2.1.1 3) (v_336.2.2.2.1.1 11) v_336.2.2.2.2.2.2.2.2.1 (nI v_336.2.2.2.2.1)) := ⟨_, rfl⟩
              rw [bnd_e hr_359] at hv_347
              refine b_alle hr_359 (W1 := fun pa => (xW cI cC cG ad pa v_336.2.2.2)) (va_runV (As := [.int 0]) (rest := []) ⟨hx, hb, hml, hown, hts⟩ (cu_TC_count l dC dI cI cC cG cZ ad pa v_336.2.2.2 (0 : Int32) ) (cwV 1 hts gL_turn_X6_count rfl rfl rfl (by decide +kernel) ⟨Nat.le_of_ble_eq_true rfl, Nat.le_of_ble_eq_true rfl⟩) (b_preV hP hK hD (ci := 6) (i0 := 0) (q0 := 0) rfl rfl rfl) rfl rfl hl.1 rfl (lv_room (Nat.le_of_ble_eq_true rfl)) dL_turn_596 ⟨Nat.zero_le _, Nat.zero_le _⟩) hD hS (fun H locs pa hP hD hS => ?_)
              have hP : bP (dC, dI) vwCl (xW cI cC cG ad pa v_336.2.2.2) H := hP
              have hD : bD A (xW cI cC cG ad pa v_336.2.2.2) := hD
              refine lv_iload hx hb dL_turn_599 (lv_at hl 6 rfl) ?_
              obtain ⟨v_361, hv_361⟩ : ∃ z : Int32, z = (if (0 : Int32) ≤ v_336.2.1 then 1 else 0) := ⟨_, rfl⟩
              rw [bnd_e hv_361] at hv_347
              have hj611 : ∀ (H : Heap) (locs : List Loc) (ls : Array Slot) (pa : Nat → Nat → Nat), bP (dC, dI) vwCl (xW cI cC cG ad pa v_336.2.2.2) H → bD A (xW cI cC cG ad pa v_336.2.2.2) → va_S A s.heap H locs → lv_has ls 16 [(13, .int v_336.2.2.1), (12, .int v_336.2.1), (11, .int v_336.1), (10, .int v_14), (9, .int r_9), (8, .int v_8), (7, .int r_5), (6, .int r_4), (5, .int r_3), (4, .int r_2), (3, .int r_1), (0, .ref (ad 0 0)), (1, .int a), (2, .int b)] → W p l e (headSpec wsL_turn ({ frames := 8, cells := 0, slots := 0, locals := 171 })).room s m ([.ref (ad 0 0), .int a, .int b] : List Value).toArray below meth c H locs 0 0 (MQ below (bQi (dC, dI) vwCl res.1 (fun pa => (xW cI cC cG ad pa res.2)) A) ([.ref (ad 0 0), .int a, .int b] : List Value).toArray s 0 0 A) (F0 m 611 ls [.int v_361, .int r_5, .int r_359]) := by
                intro H locs ls pa hP hD hS hl
                refine lv_iadd hx hb dL_turn_611 ?_
                refine lv_icmp_ne (tgt := 619) hx hb dL_turn_612 (by decide) (fun c_362 => ?_) (fun c_362 => ?_)
                · rw [if_neg c_362] at hv_347
                  refine lv_iconst (v := 0) hx hb dL_turn_619 (by decide) ?_
                  subst hv_347
                  exact hj620 _ _ _ _ hP hD hS (lv_sub hl [0, 1, 2, 3, 4, 5, 6, 7, 8, 9, 10, 11, 12, 13] rfl)
                · rw [if_pos c_362] at hv_347
                  refine lv_iconst (v := 1) hx hb dL_turn_615 (by decide) ?_
                  refine lv_goto (tgt := 620) hx hb dL_turn_616 (by decide) ?_
                  subst hv_347
                  exact hj620 _ _ _ _ hP hD hS (lv_sub hl [0, 1, 2, 3, 4, 5, 6, 7, 8, 9, 10, 11, 12, 13] rfl)
              refine lv_iload hx hb dL_turn_601 (lv_at hl 1 rfl) ?_
              refine lv_if_ge (tgt := 610) hx hb dL_turn_603 (by decide) (fun c_363 => ?_) (fun c_363 => ?_)
              · rw [if_pos c_363] at hv_361
                refine lv_iconst (v := 1) hx hb dL_turn_610 (by decide) ?_
                subst hv_361
                exact hj611 _ _ _ _ hP hD hS (lv_sub hl [0, 1, 2, 3, 4, 5, 6, 7, 8, 9, 10, 11, 12, 13] rfl)
              · rw [if_neg c_363] at hv_361
                refine lv_iconst (v := 0) hx hb dL_turn_606 (by decide) ?_
                refine lv_goto (tgt := 611) hx hb dL_turn_607 (by decide) ?_
                subst hv_361
                exact hj611 _ _ _ _ hP hD hS (lv_sub hl [0, 1, 2, 3, 4, 5, 6, 7, 8, 9, 10, 11, 12, 13] rfl)
      refine lv_iload_n hx hb dL_turn_99 rfl (lv_at hl 12 rfl) ?_
      refine lv_bipush (v := 16) hx hb dL_turn_100 (by decide) ?_
      obtain ⟨r_364, hr_364⟩ : ∃ z, z = (F_Law_low a (16 : Int32)) := ⟨_, rfl⟩
      rw [bnd_e hr_364] at hv_336
      refine b_roi (va_runS (As := [.int a, .int 16]) (rest := []) ⟨hx, hb, hml, hown, hts⟩ (c_Law_low l dC dI cI cC cG cZ a (16 : Int32) (by decide) r_364 hr_364) (va_cwS 2 hts gL_turn_L_low rfl rfl rfl (by decide +kernel) ⟨Nat.le_of_ble_eq_true rfl, Nat.le_of_ble_eq_true rfl⟩) (ro_preS (w_nil (dC, dI) vwCl) hK) rfl rfl hl.1 rfl (lv_room (Nat.le_of_ble_eq_true rfl)) dL_turn_102 ⟨Nat.zero_le _, Nat.zero_le _⟩) hP hS (fun H locs hP hS => ?_)
      by_cases c_365 : r_364 = 0
      · rw [if_pos c_365] at hv_336
        refine lv_tableIn (off := 75) (tgt := 180) hx hb dL_turn_105 (by rw [c_365]; decide) (by rw [c_365]; decide) (by rw [c_365]; rfl) (by decide) ?_
        obtain ⟨v_369, hv_369⟩ : ∃ z : Int32, z = (if (82 : Int32) ≤ r_1 then 0 else (bnd (F_TC_of r_1 (4 : Int32) (x.1.1 1) (x.1.2.1 0) (x.1.2.1 1) (x.1.2.1 2) (x.1.2.2 0) (x.1.2.2 1) (x.1.1 2) (x.1.2.2 2) (x.1.1 10) (x.1.2.2 3)) (fun r_367 => (if ((r_367 >>> (r_2 &&& 31)) &&& 1) = 1 then 1 else 0)))) := ⟨_, rfl⟩
        rw [bnd_e hv_369] at hv_336
        have hj206 : ∀ (H : Heap) (locs : List Loc) (ls : Array Slot) (pa : Nat → Nat → Nat), bP (dC, dI) vwCl (xW cI cC cG ad pa x) H → bD A (xW cI cC cG ad pa x) → va_S A s.heap H locs → lv_has ls 16 [(13, .int 0), (12, .int 0), (11, .int 0), (10, .int v_14), (9, .int r_9), (8, .int v_8), (7, .int r_5), (6, .int r_4), (5, .int r_3), (4, .int r_2), (3, .int r_1), (0, .ref (ad 0 0)), (1, .int a), (2, .int b)] → W p l e (headSpec wsL_turn ({ frames := 8, cells := 0, slots := 0, locals := 171 })).room s m ([.ref (ad 0 0), .int a, .int b] : List Value).toArray below meth c H locs 0 0 (MQ below (bQi (dC, dI) vwCl res.1 (fun pa => (xW cI cC cG ad pa res.2)) A) ([.ref (ad 0 0), .int a, .int b] : List Value).toArray s 0 0 A) (F0 m 206 ls [.int v_369]) := by
          intro H locs ls pa hP hD hS hl
          refine lv_istore (lv' := [(14, .int v_369), (13, .int 0), (12, .int 0), (11, .int 0), (10, .int v_14), (9, .int r_9), (8, .int v_8), (7, .int r_5), (6, .int r_4), (5, .int r_3), (4, .int r_2), (3, .int r_1), (0, .ref (ad 0 0)), (1, .int a), (2, .int b)]) hx hb dL_turn_206 hl (by decide) rfl (fun ls hl => ?_)
          obtain ⟨v_378, hv_378⟩ : ∃ z : Int32, z = (if r_1 = 82 then (-1) else (if v_14 = 0 then (-5) else (bnd (F_TC_of r_1 (6 : Int32) (x.1.1 1) (x.1.2.1 0) (x.1.2.1 1) (x.1.2.1 2) (x.1.2.2 0) (x.1.2.2 1) (x.1.1 2) (x.1.2.2 2) (x.1.1 10) (x.1.2.2 3)) (fun r_372 => (if r_372 = 0 then (-5) else (if v_369 = 0 then (bnd (F_TC_player r_2 (2 : Int32) (x.1.1 2) (x.1.1 3) (x.1.1 4) (x.1.1 5) (x.1.1 6) (x.1.1 7) (x.1.1 8) (x.1.1 9) (x.1.1 10) (x.1.1 11) (x.1.1 12) (x.1.1 13) (x.1.1 14) (x.1.1 15) (x.1.1 16) (x.1.1 17)) (fun r_375 => (if r_375 = 8 then (-4) else (bnd (F_TC_player r_2 (2 : Int32) (x.1.1 2) (x.1.1 3) (x.1.1 4) (x.1.1 5) (x.1.1 6) (x.1.1 7) (x.1.1 8) (x.1.1 9) (x.1.1 10) (x.1.1 11) (x.1.1 12) (x.1.1 13) (x.1.1 14) (x.1.1 15) (x.1.1 16) (x.1.1 17)) (fun r_377 => (r_377 + 1)))))) else (-5))))))) := ⟨_, rfl⟩
          rw [bnd_e hv_378] at hv_336
          have hj269 : ∀ (H : Heap) (locs : List Loc) (ls : Array Slot) (pa : Nat → Nat → Nat), bP (dC, dI) vwCl (xW cI cC cG ad pa x) H → bD A (xW cI cC cG ad pa x) → va_S A s.heap H locs → lv_has ls 16 [(14, .int v_369), (13, .int 0), (12, .int 0), (11, .int 0), (10, .int v_14), (9, .int r_9), (8, .int v_8), (7, .int r_5), (6, .int r_4), (5, .int r_3), (4, .int r_2), (3, .int r_1), (0, .ref (ad 0 0)), (1, .int a), (2, .int b)] → W p l e (headSpec wsL_turn ({ frames := 8, cells := 0, slots := 0, locals := 171 })).room s m ([.ref (ad 0 0), .int a, .int b] : List Value).toArray below meth c H locs 0 0 (MQ below (bQi (dC, dI) vwCl res.1 (fun pa => (xW cI cC cG ad pa res.2)) A) ([.ref (ad 0 0), .int a, .int b] : List Value).toArray s 0 0 A) (F0 m 269 ls [.int v_378]) := by
            intro H locs ls pa hP hD hS hl
            refine lv_istore (lv' := [(12, .int v_378), (14, .int v_369), (13, .int 0), (11, .int 0), (10, .int v_14), (9, .int r_9), (8, .int v_8), (7, .int r_5), (6, .int r_4), (5, .int r_3), (4, .int r_2), (3, .int r_1), (0, .ref (ad 0 0)), (1, .int a), (2, .int b)]) hx hb dL_turn_269 hl (by decide) rfl (fun ls hl => ?_)
            refine lv_aload_n hx hb dL_turn_271 rfl (lv_at hl 12 rfl) ?_
            refine lv_iload_n hx hb dL_turn_272 rfl (lv_at hl 11 rfl) ?_
            obtain ⟨r_379, hr_379⟩ : ∃ z, z = (X_chalk r_1 x) := ⟨_, rfl⟩
            rw [bnd_e hr_379] at hv_336
            refine b_alli (W1 := fun pa => (xW cI cC cG ad pa r_379.2)) (va_runV (As := [.int r_1]) (rest := []) ⟨hx, hb, hml, hown, hts⟩ (cu_TC_chalk l dC dI cI cC cG cZ ad pa x r_1 hI.1.1 hI.1.2 hI.2.1 r_379 hr_379) (cwV 1 hts gL_turn_X6_chalk rfl rfl rfl (by decide +kernel) ⟨Nat.le_of_ble_eq_true rfl, Nat.le_of_ble_eq_true rfl⟩) (b_preV hP hK hD (ci := 6) (i0 := 0) (q0 := 0) rfl rfl rfl) rfl rfl hl.1 rfl (lv_room (Nat.le_of_ble_eq_true rfl)) dL_turn_273 ⟨Nat.zero_le _, Nat.zero_le _⟩) hD hS (fun H locs pa hP hD hS => ?_)
            have hIr_379 : IX r_379.2 := by rw [hr_379]; exact IX_turn hI
            have hP : bP (dC, dI) vwCl (xW cI cC cG ad pa r_379.2) H := hP
            have hD : bD A (xW cI cC cG ad pa r_379.2) := hD
            refine lv_istore (lv' := [(11, .int r_379.1), (12, .int v_378), (14, .int v_369), (13, .int 0), (10, .int v_14), (9, .int r_9), (8, .int v_8), (7, .int r_5), (6, .int r_4), (5, .int r_3), (4, .int r_2), (3, .int r_1), (0, .ref (ad 0 0)), (1, .int a), (2, .int b)]) hx hb dL_turn_276 hl (by decide) rfl (fun ls hl => ?_)
            refine lv_goto (tgt := 558) hx hb dL_turn_278 (by decide) ?_
            subst hv_336
            exact hj558 _ _ _ _ hIr_379 hP hD hS (lv_sub hl [3, 1, 0, 4, 5, 6, 7, 8, 9, 10, 11, 12, 13, 14] rfl)
          refine lv_iload_n hx hb dL_turn_208 rfl (lv_at hl 11 rfl) ?_
          refine lv_bipush (v := 82) hx hb dL_turn_209 (by decide) ?_
          refine lv_icmp_ne (tgt := 218) hx hb dL_turn_211 (by decide) (fun c_380 => ?_) (fun c_380 => ?_)
          · rw [if_neg c_380] at hv_378
            refine lv_iload hx hb dL_turn_218 (lv_at hl 4 rfl) ?_
            refine lv_if_eq (tgt := 238) hx hb dL_turn_220 (by decide) (fun c_381 => ?_) (fun c_381 => ?_)
            · rw [if_pos c_381] at hv_378
              refine lv_bipush (v := (-5)) hx hb dL_turn_238 (by decide) ?_
              refine lv_goto (tgt := 269) hx hb dL_turn_240 (by decide) ?_
              subst hv_378
              exact hj269 _ _ _ _ hP hD hS (lv_sub hl [0, 1, 2, 3, 4, 5, 6, 7, 8, 9, 10, 11, 12, 13, 14] rfl)
            · rw [if_neg c_381] at hv_378
              refine lv_aload_n hx hb dL_turn_223 rfl (lv_at hl 12 rfl) ?_
              refine lv_iload_n hx hb dL_turn_224 rfl (lv_at hl 11 rfl) ?_
              refine lv_bipush (v := 6) hx hb dL_turn_225 (by decide) ?_
              obtain ⟨r_382, hr_382⟩ : ∃ z, z = (F_TC_of r_1 (6 : Int32) (x.1.1 1) (x.1.2.1 0) (x.1.2.1 1) (x.1.2.1 2) (x.1.2.2 0) (x.1.2.2 1) (x.1.1 2) (x.1.2.2 2) (x.1.1 10) (x.1.2.2 3)) := ⟨_, rfl⟩
              rw [bnd_e hr_382] at hv_378
              refine b_alle hr_382 (W1 := fun pa => (xW cI cC cG ad pa x)) (va_runV (As := [.int r_1, .int 6]) (rest := []) ⟨hx, hb, hml, hown, hts⟩ (cu_TC_of l dC dI cI cC cG cZ ad pa x r_1 (6 : Int32) hI.1.1 hI.1.2) (cwV 2 hts gL_turn_X6_of rfl rfl rfl (by decide +kernel) ⟨Nat.le_of_ble_eq_true rfl, Nat.le_of_ble_eq_true rfl⟩) (b_preV hP hK hD (ci := 6) (i0 := 0) (q0 := 0) rfl rfl rfl) rfl rfl hl.1 rfl (lv_room (Nat.le_of_ble_eq_true rfl)) dL_turn_227 ⟨Nat.zero_le _, Nat.zero_le _⟩) hD hS (fun H locs pa hP hD hS => ?_)
              have hP : bP (dC, dI) vwCl (xW cI cC cG ad pa x) H := hP
              have hD : bD A (xW cI cC cG ad pa x) := hD
              refine lv_if_eq (tgt := 238) hx hb dL_turn_230 (by decide) (fun c_383 => ?_) (fun c_383 => ?_)
              · rw [if_pos c_383] at hv_378
                refine lv_bipush (v := (-5)) hx hb dL_turn_238 (by decide) ?_
                refine lv_goto (tgt := 269) hx hb dL_turn_240 (by decide) ?_
                subst hv_378
                exact hj269 _ _ _ _ hP hD hS (lv_sub hl [0, 1, 2, 3, 4, 5, 6, 7, 8, 9, 10, 11, 12, 13, 14] rfl)
              · rw [if_neg c_383] at hv_378
                refine lv_iload hx hb dL_turn_233 (lv_at hl 0 rfl) ?_
                refine lv_if_eq (tgt := 243) hx hb dL_turn_235 (by decide) (fun c_384 => ?_) (fun c_384 => ?_)
                · rw [if_pos c_384] at hv_378
                  refine lv_aload_n hx hb dL_turn_243 rfl (lv_at hl 12 rfl) ?_
                  refine lv_iload hx hb dL_turn_244 (lv_at hl 10 rfl) ?_
                  refine lv_iconst (v := 2) hx hb dL_turn_246 (by decide) ?_
                  obtain ⟨r_385, hr_385⟩ : ∃ z, z = (F_TC_player r_2 (2 : Int32) (x.1.1 2) (x.1.1 3) (x.1.1 4) (x.1.1 5) (x.1.1 6) (x.1.1 7) (x.1.1 8) (x.1.1 9) (x.1.1 10) (x.1.1 11) (x.1.1 12) (x.1.1 13) (x.1.1 14) (x.1.1 15) (x.1.1 16) (x.1.1 17)) := ⟨_, rfl⟩
                  rw [bnd_e hr_385] at hv_378
                  refine b_alle hr_385 (W1 := fun pa => (xW cI cC cG ad pa x)) (va_runV (As := [.int r_2, .int 2]) (rest := []) ⟨hx, hb, hml, hown, hts⟩ (cu_TC_player l dC dI cI cC cG cZ ad pa x r_2 (2 : Int32) ) (cwV 2 hts gL_turn_X6_player rfl rfl rfl (by decide +kernel) ⟨Nat.le_of_ble_eq_true rfl, Nat.le_of_ble_eq_true rfl⟩) (b_preV hP hK hD (ci := 6) (i0 := 0) (q0 := 0) rfl rfl rfl) rfl rfl hl.1 rfl (lv_room (Nat.le_of_ble_eq_true rfl)) dL_turn_247 ⟨Nat.zero_le _, Nat.zero_le _⟩) hD hS (fun H locs pa hP hD hS => ?_)
                  have hP : bP (dC, dI) vwCl (xW cI cC cG ad pa x) H := hP
                  have hD : bD A (xW cI cC cG ad pa x) := hD
                  refine lv_bipush (v := 8) hx hb dL_turn_250 (by decide) ?_
                  refine lv_icmp_ne (tgt := 260) hx hb dL_turn_252 (by decide) (fun c_386 => ?_) (fun c_386 => ?_)
                  · rw [if_neg c_386] at hv_378
                    refine lv_aload_n hx hb dL_turn_260 rfl (lv_at hl 12 rfl) ?_
                    refine lv_iload hx hb dL_turn_261 (lv_at hl 10 rfl) ?_
                    refine lv_iconst (v := 2) hx hb dL_turn_263 (by decide) ?_
                    obtain ⟨r_387, hr_387⟩ : ∃ z, z = (F_TC_player r_2 (2 : Int32) (x.1.1 2) (x.1.1 3) (x.1.1 4) (x.1.1 5) (x.1.1 6) (x.1.1 7) (x.1.1 8) (x.1.1 9) (x.1.1 10) (x.1.1 11) (x.1.1 12) (x.1.1 13) (x.1.1 14) (x.1.1 15) (x.1.1 16) (x.1.1 17)) := ⟨_, rfl⟩
                    rw [bnd_e hr_387] at hv_378
                    refine b_alle hr_387 (W1 := fun pa => (xW cI cC cG ad pa x)) (va_runV (As := [.int r_2, .int 2]) (rest := []) ⟨hx, hb, hml, hown, hts⟩ (cu_TC_player l dC dI cI cC cG cZ ad pa x r_2 (2 : Int32) ) (cwV 2 hts gL_turn_X6_player rfl rfl rfl (by decide +kernel) ⟨Nat.le_of_ble_eq_true rfl, Nat.le_of_ble_eq_true rfl⟩) (b_preV hP hK hD (ci := 6) (i0 := 0) (q0 := 0) rfl rfl rfl) rfl rfl hl.1 rfl (lv_room (Nat.le_of_ble_eq_true rfl)) dL_turn_264 ⟨Nat.zero_le _, Nat.zero_le _⟩) hD hS (fun H locs pa hP hD hS => ?_)
                    have hP : bP (dC, dI) vwCl (xW cI cC cG ad pa x) H := hP
                    have hD : bD A (xW cI cC cG ad pa x) := hD
                    refine lv_iconst (v := 1) hx hb dL_turn_267 (by decide) ?_
                    refine lv_iadd hx hb dL_turn_268 ?_
                    subst hv_378
                    exact hj269 _ _ _ _ hP hD hS (lv_sub hl [0, 1, 2, 3, 4, 5, 6, 7, 8, 9, 10, 11, 12, 13, 14] rfl)
                  · rw [if_pos c_386] at hv_378
                    refine lv_bipush (v := (-4)) hx hb dL_turn_255 (by decide) ?_
                    refine lv_goto (tgt := 269) hx hb dL_turn_257 (by decide) ?_
                    subst hv_378
                    exact hj269 _ _ _ _ hP hD hS (lv_sub hl [0, 1, 2, 3, 4, 5, 6, 7, 8, 9, 10, 11, 12, 13, 14] rfl)
                · rw [if_neg c_384] at hv_378
                  refine lv_bipush (v := (-5)) hx hb dL_turn_238 (by decide) ?_
                  refine lv_goto (tgt := 269) hx hb dL_turn_240 (by decide) ?_
                  subst hv_378
                  exact hj269 _ _ _ _ hP hD hS (lv_sub hl [0, 1, 2, 3, 4, 5, 6, 7, 8, 9, 10, 11, 12, 13, 14] rfl)
          · rw [if_pos c_380] at hv_378
            refine lv_iconst (v := (-1)) hx hb dL_turn_214 (by decide) ?_
            refine lv_goto (tgt := 269) hx hb dL_turn_215 (by decide) ?_
            subst hv_378
            exact hj269 _ _ _ _ hP hD hS (lv_sub hl [0, 1, 2, 3, 4, 5, 6, 7, 8, 9, 10, 11, 12, 13, 14] rfl)
        refine lv_iload_n hx hb dL_turn_180 rfl (lv_at hl 10 rfl) ?_
        refine lv_bipush (v := 82) hx hb dL_turn_181 (by decide) ?_
        refine lv_icmp_ge (tgt := 205) hx hb dL_turn_183 (by decide) (fun c_388 => ?_) (fun c_388 => ?_)
        · rw [if_pos c_388] at hv_369
          refine lv_iconst (v := 0) hx hb dL_turn_205 (by decide) ?_
          subst hv_369
          exact hj206 _ _ _ _ hP hD hS (lv_sub hl [0, 1, 2, 3, 4, 5, 6, 7, 8, 9, 10, 11, 12, 13] rfl)
        · rw [if_neg c_388] at hv_369
          refine lv_aload_n hx hb dL_turn_186 rfl (lv_at hl 11 rfl) ?_
          refine lv_iload_n hx hb dL_turn_187 rfl (lv_at hl 10 rfl) ?_
          refine lv_iconst (v := 4) hx hb dL_turn_188 (by decide) ?_
          obtain ⟨r_389, hr_389⟩ : ∃ z, z = (F_TC_of r_1 (4 : Int32) (x.1.1 1) (x.1.2.1 0) (x.1.2.1 1) (x.1.2.1 2) (x.1.2.2 0) (x.1.2.2 1) (x.1.1 2) (x.1.2.2 2) (x.1.1 10) (x.1.2.2 3)) := ⟨_, rfl⟩
          rw [bnd_e hr_389] at hv_369
          refine b_alle hr_389 (W1 := fun pa => (xW cI cC cG ad pa x)) (va_runV (As := [.int r_1, .int 4]) (rest := []) ⟨hx, hb, hml, hown, hts⟩ (cu_TC_of l dC dI cI cC cG cZ ad pa x r_1 (4 : Int32) hI.1.1 hI.1.2) (cwV 2 hts gL_turn_X6_of rfl rfl rfl (by decide +kernel) ⟨Nat.le_of_ble_eq_true rfl, Nat.le_of_ble_eq_true rfl⟩) (b_preV hP hK hD (ci := 6) (i0 := 0) (q0 := 0) rfl rfl rfl) rfl rfl hl.1 rfl (lv_room (Nat.le_of_ble_eq_true rfl)) dL_turn_189 ⟨Nat.zero_le _, Nat.zero_le _⟩) hD hS (fun H locs pa hP hD hS => ?_)
          have hP : bP (dC, dI) vwCl (xW cI cC cG ad pa x) H := hP
          have hD : bD A (xW cI cC cG ad pa x) := hD
          refine lv_iload hx hb dL_turn_192 (lv_at hl 9 rfl) ?_
          refine lv_ishr hx hb dL_turn_194 ?_
          refine lv_iconst (v := 1) hx hb dL_turn_195 (by decide) ?_
          refine lv_iand hx hb dL_turn_196 ?_
          refine lv_iconst (v := 1) hx hb dL_turn_197 (by decide) ?_
          refine lv_icmp_ne (tgt := 205) hx hb dL_turn_198 (by decide) (fun c_390 => ?_) (fun c_390 => ?_)
          · rw [if_neg c_390] at hv_369
            refine lv_iconst (v := 0) hx hb dL_turn_205 (by decide) ?_
            subst hv_369
            exact hj206 _ _ _ _ hP hD hS (lv_sub hl [0, 1, 2, 3, 4, 5, 6, 7, 8, 9, 10, 11, 12, 13] rfl)
          · rw [if_pos c_390] at hv_369
            refine lv_iconst (v := 1) hx hb dL_turn_201 (by decide) ?_
            refine lv_goto (tgt := 206) hx hb dL_turn_202 (by decide) ?_
            subst hv_369
            exact hj206 _ _ _ _ hP hD hS (lv_sub hl [0, 1, 2, 3, 4, 5, 6, 7, 8, 9, 10, 11, 12, 13] rfl)
      · rw [if_neg c_365] at hv_336
        by_cases c_391 : r_364 = 1
        · rw [if_pos c_391] at hv_336
          refine lv_tableIn (off := 75) (tgt := 180) hx hb dL_turn_105 (by rw [c_391]; decide) (by rw [c_391]; decide) (by rw [c_391]; rfl) (by decide) ?_
          obtain ⟨v_395, hv_395⟩ : ∃ z : Int32, z = (if (82 : Int32) ≤ r_1 then 0 else (bnd (F_TC_of r_1 (4 : Int32) (x.1.1 1) (x.1.2.1 0) (x.1.2.1 1) (x.1.2.1 2) (x.1.2.2 0) (x.1.2.2 1) (x.1.1 2) (x.1.2.2 2) (x.1.1 10) (x.1.2.2 3)) (fun r_393 => (if ((r_393 >>> (r_2 &&& 31)) &&& 1) = 1 then 1 else 0)))) := ⟨_, rfl⟩
          rw [bnd_e hv_395] at hv_336
          have hj206 : ∀ (H : Heap) (locs : List Loc) (ls : Array Slot) (pa : Nat → Nat → Nat), bP (dC, dI) vwCl (xW cI cC cG ad pa x) H → bD A (xW cI cC cG ad pa x) → va_S A s.heap H locs → lv_has ls 16 [(13, .int 0), (12, .int 0), (11, .int 0), (10, .int v_14), (9, .int r_9), (8, .int v_8), (7, .int r_5), (6, .int r_4), (5, .int r_3), (4, .int r_2), (3, .int r_1), (0, .ref (ad 0 0)), (1, .int a), (2, .int b)] → W p l e (headSpec wsL_turn ({ frames := 8, cells := 0, slots := 0, locals := 171 })).room s m ([.ref (ad 0 0), .int a, .int b] : List Value).toArray below meth c H locs 0 0 (MQ below (bQi (dC, dI) vwCl res.1 (fun pa => (xW cI cC cG ad pa res.2)) A) ([.ref (ad 0 0), .int a, .int b] : List Value).toArray s 0 0 A) (F0 m 206 ls [.int v_395]) := by
            intro H locs ls pa hP hD hS hl
            refine lv_istore (lv' := [(14, .int v_395), (13, .int 0), (12, .int 0), (11, .int 0), (10, .int v_14), (9, .int r_9), (8, .int v_8), (7, .int r_5), (6, .int r_4), (5, .int r_3), (4, .int r_2), (3, .int r_1), (0, .ref (ad 0 0)), (1, .int a), (2, .int b)]) hx hb dL_turn_206 hl (by decide) rfl (fun ls hl => ?_)
            obtain ⟨v_404, hv_404⟩ : ∃ z : Int32, z = (if r_1 = 82 then (-1) else (if v_14 = 0 then (-5) else (bnd (F_TC_of r_1 (6 : Int32) (x.1.1 1) (x.1.2.1 0) (x.1.2.1 1) (x.1.2.1 2) (x.1.2.2 0) (x.1.2.2 1) (x.1.1 2) (x.1.2.2 2) (x.1.1 10) (x.1.2.2 3)) (fun r_398 => (if r_398 = 0 then (-5) else (if v_395 = 0 then (bnd (F_TC_player r_2 (2 : Int32) (x.1.1 2) (x.1.1 3) (x.1.1 4) (x.1.1 5) (x.1.1 6) (x.1.1 7) (x.1.1 8) (x.1.1 9) (x.1.1 10) (x.1.1 11) (x.1.1 12) (x.1.1 13) (x.1.1 14) (x.1.1 15) (x.1.1 16) (x.1.1 17)) (fun r_401 => (if r_401 = 8 then (-4) else (bnd (F_TC_player r_2 (2 : Int32) (x.1.1 2) (x.1.1 3) (x.1.1 4) (x.1.1 5) (x.1.1 6) (x.1.1 7) (x.1.1 8) (x.1.1 9) (x.1.1 10) (x.1.1 11) (x.1.1 12) (x.1.1 13) (x.1.1 14) (x.1.1 15) (x.1.1 16) (x.1.1 17)) (fun r_403 => (r_403 + 1)))))) else (-5))))))) := ⟨_, rfl⟩
            rw [bnd_e hv_404] at hv_336
            have hj269 : ∀ (H : Heap) (locs : List Loc) (ls : Array Slot) (pa : Nat → Nat → Nat), bP (dC, dI) vwCl (xW cI cC cG ad pa x) H → bD A (xW cI cC cG ad pa x) → va_S A s.heap H locs → lv_has ls 16 [(14, .int v_395), (13, .int 0), (12, .int 0), (11, .int 0), (10, .int v_14), (9, .int r_9), (8, .int v_8), (7, .int r_5), (6, .int r_4), (5, .int r_3), (4, .int r_2), (3, .int r_1), (0, .ref (ad 0 0)), (1, .int a), (2, .int b)] → W p l e (headSpec wsL_turn ({ frames := 8, cells := 0, slots := 0, locals := 171 })).room s m ([.ref (ad 0 0), .int a, .int b] : List Value).toArray below meth c H locs 0 0 (MQ below (bQi (dC, dI) vwCl res.1 (fun pa => (xW cI cC cG ad pa res.2)) A) ([.ref (ad 0 0), .int a, .int b] : List Value).toArray s 0 0 A) (F0 m 269 ls [.int v_404]) := by
              intro H locs ls pa hP hD hS hl
              refine lv_istore (lv' := [(12, .int v_404), (14, .int v_395), (13, .int 0), (11, .int 0), (10, .int v_14), (9, .int r_9), (8, .int v_8), (7, .int r_5), (6, .int r_4), (5, .int r_3), (4, .int r_2), (3, .int r_1), (0, .ref (ad 0 0)), (1, .int a), (2, .int b)]) hx hb dL_turn_269 hl (by decide) rfl (fun ls hl => ?_)
              refine lv_aload_n hx hb dL_turn_271 rfl (lv_at hl 12 rfl) ?_
              refine lv_iload_n hx hb dL_turn_272 rfl (lv_at hl 11 rfl) ?_
              obtain ⟨r_405, hr_405⟩ : ∃ z, z = (X_chalk r_1 x) := ⟨_, rfl⟩
              rw [bnd_e hr_405] at hv_336
              refine b_alli (W1 := fun pa => (xW cI cC cG ad pa r_405.2)) (va_runV (As := [.int r_1]) (rest := []) ⟨hx, hb, hml, hown, hts⟩ (cu_TC_chalk l dC dI cI cC cG cZ ad pa x r_1 hI.1.1 hI.1.2 hI.2.1 r_405 hr_405) (cwV 1 hts gL_turn_X6_chalk rfl rfl rfl (by decide +kernel) ⟨Nat.le_of_ble_eq_true rfl, Nat.le_of_ble_eq_true rfl⟩) (b_preV hP hK hD (ci := 6) (i0 := 0) (q0 := 0) rfl rfl rfl) rfl rfl hl.1 rfl (lv_room (Nat.le_of_ble_eq_true rfl)) dL_turn_273 ⟨Nat.zero_le _, Nat.zero_le _⟩) hD hS (fun H locs pa hP hD hS => ?_)
              have hIr_405 : IX r_405.2 := by rw [hr_405]; exact IX_turn hI
              have hP : bP (dC, dI) vwCl (xW cI cC cG ad pa r_405.2) H := hP
              have hD : bD A (xW cI cC cG ad pa r_405.2) := hD
              refine lv_istore (lv' := [(11, .int r_405.1), (12, .int v_404), (14, .int v_395), (13, .int 0), (10, .int v_14), (9, .int r_9), (8, .int v_8), (7, .int r_5), (6, .int r_4), (5, .int r_3), (4, .int r_2), (3, .int r_1), (0, .ref (ad 0 0)), (1, .int a), (2, .int b)]) hx hb dL_turn_276 hl (by decide) rfl (fun ls hl => ?_)
              refine lv_goto (tgt := 558) hx hb dL_turn_278 (by decide) ?_
              subst hv_336
              exact hj558 _ _ _ _ hIr_405 hP hD hS (lv_sub hl [3, 1, 0, 4, 5, 6, 7, 8, 9, 10, 11, 12, 13, 14] rfl)
            refine lv_iload_n hx hb dL_turn_208 rfl (lv_at hl 11 rfl) ?_
            refine lv_bipush (v := 82) hx hb dL_turn_209 (by decide) ?_
            refine lv_icmp_ne (tgt := 218) hx hb dL_turn_211 (by decide) (fun c_406 => ?_) (fun c_406 => ?_)
            · rw [if_neg c_406] at hv_404
              refine lv_iload hx hb dL_turn_218 (lv_at hl 4 rfl) ?_
              refine lv_if_eq (tgt := 238) hx hb dL_turn_220 (by decide) (fun c_407 => ?_) (fun c_407 => ?_)
              · rw [if_pos c_407] at hv_404
                refine lv_bipush (v := (-5)) hx hb dL_turn_238 (by decide) ?_
                refine lv_goto (tgt := 269) hx hb dL_turn_240 (by decide) ?_
                subst hv_404
                exact hj269 _ _ _ _ hP hD hS (lv_sub hl [0, 1, 2, 3, 4, 5, 6, 7, 8, 9, 10, 11, 12, 13, 14] rfl)
              · rw [if_neg c_407] at hv_404
                refine lv_aload_n hx hb dL_turn_223 rfl (lv_at hl 12 rfl) ?_
                refine lv_iload_n hx hb dL_turn_224 rfl (lv_at hl 11 rfl) ?_
                refine lv_bipush (v := 6) hx hb dL_turn_225 (by decide) ?_
                obtain ⟨r_408, hr_408⟩ : ∃ z, z = (F_TC_of r_1 (6 : Int32) (x.1.1 1) (x.1.2.1 0) (x.1.2.1 1) (x.1.2.1 2) (x.1.2.2 0) (x.1.2.2 1) (x.1.1 2) (x.1.2.2 2) (x.1.1 10) (x.1.2.2 3)) := ⟨_, rfl⟩
                rw [bnd_e hr_408] at hv_404
                refine b_alle hr_408 (W1 := fun pa => (xW cI cC cG ad pa x)) (va_runV (As := [.int r_1, .int 6]) (rest := []) ⟨hx, hb, hml, hown, hts⟩ (cu_TC_of l dC dI cI cC cG cZ ad pa x r_1 (6 : Int32) hI.1.1 hI.1.2) (cwV 2 hts gL_turn_X6_of rfl rfl rfl (by decide +kernel) ⟨Nat.le_of_ble_eq_true rfl, Nat.le_of_ble_eq_true rfl⟩) (b_preV hP hK hD (ci := 6) (i0 := 0) (q0 := 0) rfl rfl rfl) rfl rfl hl.1 rfl (lv_room (Nat.le_of_ble_eq_true rfl)) dL_turn_227 ⟨Nat.zero_le _, Nat.zero_le _⟩) hD hS (fun H locs pa hP hD hS => ?_)
                have hP : bP (dC, dI) vwCl (xW cI cC cG ad pa x) H := hP
                have hD : bD A (xW cI cC cG ad pa x) := hD
                refine lv_if_eq (tgt := 238) hx hb dL_turn_230 (by decide) (fun c_409 => ?_) (fun c_409 => ?_)
                · rw [if_pos c_409] at hv_404
                  refine lv_bipush (v := (-5)) hx hb dL_turn_238 (by decide) ?_
                  refine lv_goto (tgt := 269) hx hb dL_turn_240 (by decide) ?_
                  subst hv_404
                  exact hj269 _ _ _ _ hP hD hS (lv_sub hl [0, 1, 2, 3, 4, 5, 6, 7, 8, 9, 10, 11, 12, 13, 14] rfl)
                · rw [if_neg c_409] at hv_404
                  refine lv_iload hx hb dL_turn_233 (lv_at hl 0 rfl) ?_
                  refine lv_if_eq (tgt := 243) hx hb dL_turn_235 (by decide) (fun c_410 => ?_) (fun c_410 => ?_)
                  · rw [if_pos c_410] at hv_404
                    refine lv_aload_n hx hb dL_turn_243 rfl (lv_at hl 12 rfl) ?_
                    refine lv_iload hx hb dL_turn_244 (lv_at hl 10 rfl) ?_
                    refine lv_iconst (v := 2) hx hb dL_turn_246 (by decide) ?_
                    obtain ⟨r_411, hr_411⟩ : ∃ z, z = (F_TC_player r_2 (2 : Int32) (x.1.1 2) (x.1.1 3) (x.1.1 4) (x.1.1 5) (x.1.1 6) (x.1.1 7) (x.1.1 8) (x.1.1 9) (x.1.1 10) (x.1.1 11) (x.1.1 12) (x.1.1 13) (x.1.1 14) (x.1.1 15) (x.1.1 16) (x.1.1 17)) := ⟨_, rfl⟩
                    rw [bnd_e hr_411] at hv_404
                    refine b_alle hr_411 (W1 := fun pa => (xW cI cC cG ad pa x)) (va_runV (As := [.int r_2, .int 2]) (rest := []) ⟨hx, hb, hml, hown, hts⟩ (cu_TC_player l dC dI cI cC cG cZ ad pa x r_2 (2 : Int32) ) (cwV 2 hts gL_turn_X6_player rfl rfl rfl (by decide +kernel) ⟨Nat.le_of_ble_eq_true rfl, Nat.le_of_ble_eq_true rfl⟩) (b_preV hP hK hD (ci := 6) (i0 := 0) (q0 := 0) rfl rfl rfl) rfl rfl hl.1 rfl (lv_room (Nat.le_of_ble_eq_true rfl)) dL_turn_247 ⟨Nat.zero_le _, Nat.zero_le _⟩) hD hS (fun H locs pa hP hD hS => ?_)
                    have hP : bP (dC, dI) vwCl (xW cI cC cG ad pa x) H := hP
                    have hD : bD A (xW cI cC cG ad pa x) := hD
                    refine lv_bipush (v := 8) hx hb dL_turn_250 (by decide) ?_
                    refine lv_icmp_ne (tgt := 260) hx hb dL_turn_252 (by decide) (fun c_412 => ?_) (fun c_412 => ?_)
                    · rw [if_neg c_412] at hv_404
                      refine lv_aload_n hx hb dL_turn_260 rfl (lv_at hl 12 rfl) ?_
                      refine lv_iload hx hb dL_turn_261 (lv_at hl 10 rfl) ?_
                      refine lv_iconst (v := 2) hx hb dL_turn_263 (by decide) ?_
                      obtain ⟨r_413, hr_413⟩ : ∃ z, z = (F_TC_player r_2 (2 : Int32) (x.1.1 2) (x.1.1 3) (x.1.1 4) (x.1.1 5) (x.1.1 6) (x.1.1 7) (x.1.1 8) (x.1.1 9) (x.1.1 10) (x.1.1 11) (x.1.1 12) (x.1.1 13) (x.1.1 14) (x.1.1 15) (x.1.1 16) (x.1.1 17)) := ⟨_, rfl⟩
                      rw [bnd_e hr_413] at hv_404
                      refine b_alle hr_413 (W1 := fun pa => (xW cI cC cG ad pa x)) (va_runV (As := [.int r_2, .int 2]) (rest := []) ⟨hx, hb, hml, hown, hts⟩ (cu_TC_player l dC dI cI cC cG cZ ad pa x r_2 (2 : Int32) ) (cwV 2 hts gL_turn_X6_player rfl rfl rfl (by decide +kernel) ⟨Nat.le_of_ble_eq_true rfl, Nat.le_of_ble_eq_true rfl⟩) (b_preV hP hK hD (ci := 6) (i0 := 0) (q0 := 0) rfl rfl rfl) rfl rfl hl.1 rfl (lv_room (Nat.le_of_ble_eq_true rfl)) dL_turn_264 ⟨Nat.zero_le _, Nat.zero_le _⟩) hD hS (fun H locs pa hP hD hS => ?_)
                      have hP : bP (dC, dI) vwCl (xW cI cC cG ad pa x) H := hP
                      have hD : bD A (xW cI cC cG ad pa x) := hD
                      refine lv_iconst (v := 1) hx hb dL_turn_267 (by decide) ?_
                      refine lv_iadd hx hb dL_turn_268 ?_
                      subst hv_404
                      exact hj269 _ _ _ _ hP hD hS (lv_sub hl [0, 1, 2, 3, 4, 5, 6, 7, 8, 9, 10, 11, 12, 13, 14] rfl)
                    · rw [if_pos c_412] at hv_404
                      refine lv_bipush (v := (-4)) hx hb dL_turn_255 (by decide) ?_
                      refine lv_goto (tgt := 269) hx hb dL_turn_257 (by decide) ?_
                      subst hv_404
                      exact hj269 _ _ _ _ hP hD hS (lv_sub hl [0, 1, 2, 3, 4, 5, 6, 7, 8, 9, 10, 11, 12, 13, 14] rfl)
                  · rw [if_neg c_410] at hv_404
                    refine lv_bipush (v := (-5)) hx hb dL_turn_238 (by decide) ?_
                    refine lv_goto (tgt := 269) hx hb dL_turn_240 (by decide) ?_
                    subst hv_404
                    exact hj269 _ _ _ _ hP hD hS (lv_sub hl [0, 1, 2, 3, 4, 5, 6, 7, 8, 9, 10, 11, 12, 13, 14] rfl)
            · rw [if_pos c_406] at hv_404
              refine lv_iconst (v := (-1)) hx hb dL_turn_214 (by decide) ?_
              refine lv_goto (tgt := 269) hx hb dL_turn_215 (by decide) ?_
              subst hv_404
              exact hj269 _ _ _ _ hP hD hS (lv_sub hl [0, 1, 2, 3, 4, 5, 6, 7, 8, 9, 10, 11, 12, 13, 14] rfl)
          refine lv_iload_n hx hb dL_turn_180 rfl (lv_at hl 10 rfl) ?_
          refine lv_bipush (v := 82) hx hb dL_turn_181 (by decide) ?_
          refine lv_icmp_ge (tgt := 205) hx hb dL_turn_183 (by decide) (fun c_414 => ?_) (fun c_414 => ?_)
          · rw [if_pos c_414] at hv_395
            refine lv_iconst (v := 0) hx hb dL_turn_205 (by decide) ?_
            subst hv_395
            exact hj206 _ _ _ _ hP hD hS (lv_sub hl [0, 1, 2, 3, 4, 5, 6, 7, 8, 9, 10, 11, 12, 13] rfl)
          · rw [if_neg c_414] at hv_395
            refine lv_aload_n hx hb dL_turn_186 rfl (lv_at hl 11 rfl) ?_
            refine lv_iload_n hx hb dL_turn_187 rfl (lv_at hl 10 rfl) ?_
            refine lv_iconst (v := 4) hx hb dL_turn_188 (by decide) ?_
            obtain ⟨r_415, hr_415⟩ : ∃ z, z = (F_TC_of r_1 (4 : Int32) (x.1.1 1) (x.1.2.1 0) (x.1.2.1 1) (x.1.2.1 2) (x.1.2.2 0) (x.1.2.2 1) (x.1.1 2) (x.1.2.2 2) (x.1.1 10) (x.1.2.2 3)) := ⟨_, rfl⟩
            rw [bnd_e hr_415] at hv_395
            refine b_alle hr_415 (W1 := fun pa => (xW cI cC cG ad pa x)) (va_runV (As := [.int r_1, .int 4]) (rest := []) ⟨hx, hb, hml, hown, hts⟩ (cu_TC_of l dC dI cI cC cG cZ ad pa x r_1 (4 : Int32) hI.1.1 hI.1.2) (cwV 2 hts gL_turn_X6_of rfl rfl rfl (by decide +kernel) ⟨Nat.le_of_ble_eq_true rfl, Nat.le_of_ble_eq_true rfl⟩) (b_preV hP hK hD (ci := 6) (i0 := 0) (q0 := 0) rfl rfl rfl) rfl rfl hl.1 rfl (lv_room (Nat.le_of_ble_eq_true rfl)) dL_turn_189 ⟨Nat.zero_le _, Nat.zero_le _⟩) hD hS (fun H locs pa hP hD hS => ?_)
            have hP : bP (dC, dI) vwCl (xW cI cC cG ad pa x) H := hP
            have hD : bD A (xW cI cC cG ad pa x) := hD
            refine lv_iload hx hb dL_turn_192 (lv_at hl 9 rfl) ?_
            refine lv_ishr hx hb dL_turn_194 ?_
            refine lv_iconst (v := 1) hx hb dL_turn_195 (by decide) ?_
            refine lv_iand hx hb dL_turn_196 ?_
            refine lv_iconst (v := 1) hx hb dL_turn_197 (by decide) ?_
            refine lv_icmp_ne (tgt := 205) hx hb dL_turn_198 (by decide) (fun c_416 => ?_) (fun c_416 => ?_)
            · rw [if_neg c_416] at hv_395
              refine lv_iconst (v := 0) hx hb dL_turn_205 (by decide) ?_
              subst hv_395
              exact hj206 _ _ _ _ hP hD hS (lv_sub hl [0, 1, 2, 3, 4, 5, 6, 7, 8, 9, 10, 11, 12, 13] rfl)
            · rw [if_pos c_416] at hv_395
              refine lv_iconst (v := 1) hx hb dL_turn_201 (by decide) ?_
              refine lv_goto (tgt := 206) hx hb dL_turn_202 (by decide) ?_
              subst hv_395
              exact hj206 _ _ _ _ hP hD hS (lv_sub hl [0, 1, 2, 3, 4, 5, 6, 7, 8, 9, 10, 11, 12, 13] rfl)
        · rw [if_neg c_391] at hv_336
          by_cases c_417 : r_364 = 2
          · rw [if_pos c_417] at hv_336
            refine lv_tableIn (off := 75) (tgt := 180) hx hb dL_turn_105 (by rw [c_417]; decide) (by rw [c_417]; decide) (by rw [c_417]; rfl) (by decide) ?_
            obtain ⟨v_421, hv_421⟩ : ∃ z : Int32, z = (if (82 : Int32) ≤ r_1 then 0 else (bnd (F_TC_of r_1 (4 : Int32) (x.1.1 1) (x.1.2.1 0) (x.1.2.1 1) (x.1.2.1 2) (x.1.2.2 0) (x.1.2.2 1) (x.1.1 2) (x.1.2.2 2) (x.1.1 10) (x.1.2.2 3)) (fun r_419 => (if ((r_419 >>> (r_2 &&& 31)) &&& 1) = 1 then 1 else 0)))) := ⟨_, rfl⟩
            rw [bnd_e hv_421] at hv_336
            have hj206 : ∀ (H : Heap) (locs : List Loc) (ls : Array Slot) (pa : Nat → Nat → Nat), bP (dC, dI) vwCl (xW cI cC cG ad pa x) H → bD A (xW cI cC cG ad pa x) → va_S A s.heap H locs → lv_has ls 16 [(13, .int 0), (12, .int 0), (11, .int 0), (10, .int v_14), (9, .int r_9), (8, .int v_8), (7, .int r_5), (6, .int r_4), (5, .int r_3), (4, .int r_2), (3, .int r_1), (0, .ref (ad 0 0)), (1, .int a), (2, .int b)] → W p l e (headSpec wsL_turn ({ frames := 8, cells := 0, slots := 0, locals := 171 })).room s m ([.ref (ad 0 0), .int a, .int b] : List Value).toArray below meth c H locs 0 0 (MQ below (bQi (dC, dI) vwCl res.1 (fun pa => (xW cI cC cG ad pa res.2)) A) ([.ref (ad 0 0), .int a, .int b] : List Value).toArray s 0 0 A) (F0 m 206 ls [.int v_421]) := by
              intro H locs ls pa hP hD hS hl
              refine lv_istore (lv' := [(14, .int v_421), (13, .int 0), (12, .int 0), (11, .int 0), (10, .int v_14), (9, .int r_9), (8, .int v_8), (7, .int r_5), (6, .int r_4), (5, .int r_3), (4, .int r_2), (3, .int r_1), (0, .ref (ad 0 0)), (1, .int a), (2, .int b)]) hx hb dL_turn_206 hl (by decide) rfl (fun ls hl => ?_)
              obtain ⟨v_430, hv_430⟩ : ∃ z : Int32, z = (if r_1 = 82 then (-1) else (if v_14 = 0 then (-5) else (bnd (F_TC_of r_1 (6 : Int32) (x.1.1 1) (x.1.2.1 0) (x.1.2.1 1) (x.1.2.1 2) (x.1.2.2 0) (x.1.2.2 1) (x.1.1 2) (x.1.2.2 2) (x.1.1 10) (x.1.2.2 3)) (fun r_424 => (if r_424 = 0 then (-5) else (if v_421 = 0 then (bnd (F_TC_player r_2 (2 : Int32) (x.1.1 2) (x.1.1 3) (x.1.1 4) (x.1.1 5) (x.1.1 6) (x.1.1 7) (x.1.1 8) (x.1.1 9) (x.1.1 10) (x.1.1 11) (x.1.1 12) (x.1.1 13) (x.1.1 14) (x.1.1 15) (x.1.1 16) (x.1.1 17)) (fun r_427 => (if r_427 = 8 then (-4) else (bnd (F_TC_player r_2 (2 : Int32) (x.1.1 2) (x.1.1 3) (x.1.1 4) (x.1.1 5) (x.1.1 6) (x.1.1 7) (x.1.1 8) (x.1.1 9) (x.1.1 10) (x.1.1 11) (x.1.1 12) (x.1.1 13) (x.1.1 14) (x.1.1 15) (x.1.1 16) (x.1.1 17)) (fun r_429 => (r_429 + 1)))))) else (-5))))))) := ⟨_, rfl⟩
              rw [bnd_e hv_430] at hv_336
              have hj269 : ∀ (H : Heap) (locs : List Loc) (ls : Array Slot) (pa : Nat → Nat → Nat), bP (dC, dI) vwCl (xW cI cC cG ad pa x) H → bD A (xW cI cC cG ad pa x) → va_S A s.heap H locs → lv_has ls 16 [(14, .int v_421), (13, .int 0), (12, .int 0), (11, .int 0), (10, .int v_14), (9, .int r_9), (8, .int v_8), (7, .int r_5), (6, .int r_4), (5, .int r_3), (4, .int r_2), (3, .int r_1), (0, .ref (ad 0 0)), (1, .int a), (2, .int b)] → W p l e (headSpec wsL_turn ({ frames := 8, cells := 0, slots := 0, locals := 171 })).room s m ([.ref (ad 0 0), .int a, .int b] : List Value).toArray below meth c H locs 0 0 (MQ below (bQi (dC, dI) vwCl res.1 (fun pa => (xW cI cC cG ad pa res.2)) A) ([.ref (ad 0 0), .int a, .int b] : List Value).toArray s 0 0 A) (F0 m 269 ls [.int v_430]) := by
                intro H locs ls pa hP hD hS hl
                refine lv_istore (lv' := [(12, .int v_430), (14, .int v_421), (13, .int 0), (11, .int 0), (10, .int v_14), (9, .int r_9), (8, .int v_8), (7, .int r_5), (6, .int r_4), (5, .int r_3), (4, .int r_2), (3, .int r_1), (0, .ref (ad 0 0)), (1, .int a), (2, .int b)]) hx hb dL_turn_269 hl (by decide) rfl (fun ls hl => ?_)
                refine lv_aload_n hx hb dL_turn_271 rfl (lv_at hl 12 rfl) ?_
                refine lv_iload_n hx hb dL_turn_272 rfl (lv_at hl 11 rfl) ?_
                obtain ⟨r_431, hr_431⟩ : ∃ z, z = (X_chalk r_1 x) := ⟨_, rfl⟩
                rw [bnd_e hr_431] at hv_336
                refine b_alli (W1 := fun pa => (xW cI cC cG ad pa r_431.2)) (va_runV (As := [.int r_1]) (rest := []) ⟨hx, hb, hml, hown, hts⟩ (cu_TC_chalk l dC dI cI cC cG cZ ad pa x r_1 hI.1.1 hI.1.2 hI.2.1 r_431 hr_431) (cwV 1 hts gL_turn_X6_chalk rfl rfl rfl (by decide +kernel) ⟨Nat.le_of_ble_eq_true rfl, Nat.le_of_ble_eq_true rfl⟩) (b_preV hP hK hD (ci := 6) (i0 := 0) (q0 := 0) rfl rfl rfl) rfl rfl hl.1 rfl (lv_room (Nat.le_of_ble_eq_true rfl)) dL_turn_273 ⟨Nat.zero_le _, Nat.zero_le _⟩) hD hS (fun H locs pa hP hD hS => ?_)
                have hIr_431 : IX r_431.2 := by rw [hr_431]; exact IX_turn hI
                have hP : bP (dC, dI) vwCl (xW cI cC cG ad pa r_431.2) H := hP
                have hD : bD A (xW cI cC cG ad pa r_431.2) := hD
                refine lv_istore (lv' := [(11, .int r_431.1), (12, .int v_430), (14, .int v_421), (13, .int 0), (10, .int v_14), (9, .int r_9), (8, .int v_8), (7, .int r_5), (6, .int r_4), (5, .int r_3), (4, .int r_2), (3, .int r_1), (0, .ref (ad 0 0)), (1, .int a), (2, .int b)]) hx hb dL_turn_276 hl (by decide) rfl (fun ls hl => ?_)
                refine lv_goto (tgt := 558) hx hb dL_turn_278 (by decide) ?_
                subst hv_336
                exact hj558 _ _ _ _ hIr_431 hP hD hS (lv_sub hl [3, 1, 0, 4, 5, 6, 7, 8, 9, 10, 11, 12, 13, 14] rfl)
              refine lv_iload_n hx hb dL_turn_208 rfl (lv_at hl 11 rfl) ?_
              refine lv_bipush (v := 82) hx hb dL_turn_209 (by decide) ?_
              refine lv_icmp_ne (tgt := 218) hx hb dL_turn_211 (by decide) (fun c_432 => ?_) (fun c_432 => ?_)
              · rw [if_neg c_432] at hv_430
                refine lv_iload hx hb dL_turn_218 (lv_at hl 4 rfl) ?_
                refine lv_if_eq (tgt := 238) hx hb dL_turn_220 (by decide) (fun c_433 => ?_) (fun c_433 => ?_)
                · rw [if_pos c_433] at hv_430
                  refine lv_bipush (v := (-5)) hx hb dL_turn_238 (by decide) ?_
                  refine lv_goto (tgt := 269) hx hb dL_turn_240 (by decide) ?_
                  subst hv_430
                  exact hj269 _ _ _ _ hP hD hS (lv_sub hl [0, 1, 2, 3, 4, 5, 6, 7, 8, 9, 10, 11, 12, 13, 14] rfl)
                · rw [if_neg c_433] at hv_430
                  refine lv_aload_n hx hb dL_turn_223 rfl (lv_at hl 12 rfl) ?_
                  refine lv_iload_n hx hb dL_turn_224 rfl (lv_at hl 11 rfl) ?_
                  refine lv_bipush (v := 6) hx hb dL_turn_225 (by decide) ?_
                  obtain ⟨r_434, hr_434⟩ : ∃ z, z = (F_TC_of r_1 (6 : Int32) (x.1.1 1) (x.1.2.1 0) (x.1.2.1 1) (x.1.2.1 2) (x.1.2.2 0) (x.1.2.2 1) (x.1.1 2) (x.1.2.2 2) (x.1.1 10) (x.1.2.2 3)) := ⟨_, rfl⟩
                  rw [bnd_e hr_434] at hv_430
                  refine b_alle hr_434 (W1 := fun pa => (xW cI cC cG ad pa x)) (va_runV (As := [.int r_1, .int 6]) (rest := []) ⟨hx, hb, hml, hown, hts⟩ (cu_TC_of l dC dI cI cC cG cZ ad pa x r_1 (6 : Int32) hI.1.1 hI.1.2) (cwV 2 hts gL_turn_X6_of rfl rfl rfl (by decide +kernel) ⟨Nat.le_of_ble_eq_true rfl, Nat.le_of_ble_eq_true rfl⟩) (b_preV hP hK hD (ci := 6) (i0 := 0) (q0 := 0) rfl rfl rfl) rfl rfl hl.1 rfl (lv_room (Nat.le_of_ble_eq_true rfl)) dL_turn_227 ⟨Nat.zero_le _, Nat.zero_le _⟩) hD hS (fun H locs pa hP hD hS => ?_)
                  have hP : bP (dC, dI) vwCl (xW cI cC cG ad pa x) H := hP
                  have hD : bD A (xW cI cC cG ad pa x) := hD
                  refine lv_if_eq (tgt := 238) hx hb dL_turn_230 (by decide) (fun c_435 => ?_) (fun c_435 => ?_)
                  · rw [if_pos c_435] at hv_430
                    refine lv_bipush (v := (-5)) hx hb dL_turn_238 (by decide) ?_
                    refine lv_goto (tgt := 269) hx hb dL_turn_240 (by decide) ?_
                    subst hv_430
                    exact hj269 _ _ _ _ hP hD hS (lv_sub hl [0, 1, 2, 3, 4, 5, 6, 7, 8, 9, 10, 11, 12, 13, 14] rfl)
                  · rw [if_neg c_435] at hv_430
                    refine lv_iload hx hb dL_turn_233 (lv_at hl 0 rfl) ?_
                    refine lv_if_eq (tgt := 243) hx hb dL_turn_235 (by decide) (fun c_436 => ?_) (fun c_436 => ?_)
                    · rw [if_pos c_436] at hv_430
                      refine lv_aload_n hx hb dL_turn_243 rfl (lv_at hl 12 rfl) ?_
                      refine lv_iload hx hb dL_turn_244 (lv_at hl 10 rfl) ?_
                      refine lv_iconst (v := 2) hx hb dL_turn_246 (by decide) ?_
                      obtain ⟨r_437, hr_437⟩ : ∃ z, z = (F_TC_player r_2 (2 : Int32) (x.1.1 2) (x.1.1 3) (x.1.1 4) (x.1.1 5) (x.1.1 6) (x.1.1 7) (x.1.1 8) (x.1.1 9) (x.1.1 10) (x.1.1 11) (x.1.1 12) (x.1.1 13) (x.1.1 14) (x.1.1 15) (x.1.1 16) (x.1.1 17)) := ⟨_, rfl⟩
                      rw [bnd_e hr_437] at hv_430
                      refine b_alle hr_437 (W1 := fun pa => (xW cI cC cG ad pa x)) (va_runV (As := [.int r_2, .int 2]) (rest := []) ⟨hx, hb, hml, hown, hts⟩ (cu_TC_player l dC dI cI cC cG cZ ad pa x r_2 (2 : Int32) ) (cwV 2 hts gL_turn_X6_player rfl rfl rfl (by decide +kernel) ⟨Nat.le_of_ble_eq_true rfl, Nat.le_of_ble_eq_true rfl⟩) (b_preV hP hK hD (ci := 6) (i0 := 0) (q0 := 0) rfl rfl rfl) rfl rfl hl.1 rfl (lv_room (Nat.le_of_ble_eq_true rfl)) dL_turn_247 ⟨Nat.zero_le _, Nat.zero_le _⟩) hD hS (fun H locs pa hP hD hS => ?_)
                      have hP : bP (dC, dI) vwCl (xW cI cC cG ad pa x) H := hP
                      have hD : bD A (xW cI cC cG ad pa x) := hD
                      refine lv_bipush (v := 8) hx hb dL_turn_250 (by decide) ?_
                      refine lv_icmp_ne (tgt := 260) hx hb dL_turn_252 (by decide) (fun c_438 => ?_) (fun c_438 => ?_)
                      · rw [if_neg c_438] at hv_430
                        refine lv_aload_n hx hb dL_turn_260 rfl (lv_at hl 12 rfl) ?_
                        refine lv_iload hx hb dL_turn_261 (lv_at hl 10 rfl) ?_
                        refine lv_iconst (v := 2) hx hb dL_turn_263 (by decide) ?_
                        obtain ⟨r_439, hr_439⟩ : ∃ z, z = (F_TC_player r_2 (2 : Int32) (x.1.1 2) (x.1.1 3) (x.1.1 4) (x.1.1 5) (x.1.1 6) (x.1.1 7) (x.1.1 8) (x.1.1 9) (x.1.1 10) (x.1.1 11) (x.1.1 12) (x.1.1 13) (x.1.1 14) (x.1.1 15) (x.1.1 16) (x.1.1 17)) := ⟨_, rfl⟩
                        rw [bnd_e hr_439] at hv_430
                        refine b_alle hr_439 (W1 := fun pa => (xW cI cC cG ad pa x)) (va_runV (As := [.int r_2, .int 2]) (rest := []) ⟨hx, hb, hml, hown, hts⟩ (cu_TC_player l dC dI cI cC cG cZ ad pa x r_2 (2 : Int32) ) (cwV 2 hts gL_turn_X6_player rfl rfl rfl (by decide +kernel) ⟨Nat.le_of_ble_eq_true rfl, Nat.le_of_ble_eq_true rfl⟩) (b_preV hP hK hD (ci := 6) (i0 := 0) (q0 := 0) rfl rfl rfl) rfl rfl hl.1 rfl (lv_room (Nat.le_of_ble_eq_true rfl)) dL_turn_264 ⟨Nat.zero_le _, Nat.zero_le _⟩) hD hS (fun H locs pa hP hD hS => ?_)
                        have hP : bP (dC, dI) vwCl (xW cI cC cG ad pa x) H := hP
                        have hD : bD A (xW cI cC cG ad pa x) := hD
                        refine lv_iconst (v := 1) hx hb dL_turn_267 (by decide) ?_
                        refine lv_iadd hx hb dL_turn_268 ?_
                        subst hv_430
                        exact hj269 _ _ _ _ hP hD hS (lv_sub hl [0, 1, 2, 3, 4, 5, 6, 7, 8, 9, 10, 11, 12, 13, 14] rfl)
                      · rw [if_pos c_438] at hv_430
                        refine lv_bipush (v := (-4)) hx hb dL_turn_255 (by decide) ?_
                        refine lv_goto (tgt := 269) hx hb dL_turn_257 (by decide) ?_
                        subst hv_430
                        exact hj269 _ _ _ _ hP hD hS (lv_sub hl [0, 1, 2, 3, 4, 5, 6, 7, 8, 9, 10, 11, 12, 13, 14] rfl)
                    · rw [if_neg c_436] at hv_430
                      refine lv_bipush (v := (-5)) hx hb dL_turn_238 (by decide) ?_
                      refine lv_goto (tgt := 269) hx hb dL_turn_240 (by decide) ?_
                      subst hv_430
                      exact hj269 _ _ _ _ hP hD hS (lv_sub hl [0, 1, 2, 3, 4, 5, 6, 7, 8, 9, 10, 11, 12, 13, 14] rfl)
              · rw [if_pos c_432] at hv_430
                refine lv_iconst (v := (-1)) hx hb dL_turn_214 (by decide) ?_
                refine lv_goto (tgt := 269) hx hb dL_turn_215 (by decide) ?_
                subst hv_430
                exact hj269 _ _ _ _ hP hD hS (lv_sub hl [0, 1, 2, 3, 4, 5, 6, 7, 8, 9, 10, 11, 12, 13, 14] rfl)
            refine lv_iload_n hx hb dL_turn_180 rfl (lv_at hl 10 rfl) ?_
            refine lv_bipush (v := 82) hx hb dL_turn_181 (by decide) ?_
            refine lv_icmp_ge (tgt := 205) hx hb dL_turn_183 (by decide) (fun c_440 => ?_) (fun c_440 => ?_)
            · rw [if_pos c_440] at hv_421
              refine lv_iconst (v := 0) hx hb dL_turn_205 (by decide) ?_
              subst hv_421
              exact hj206 _ _ _ _ hP hD hS (lv_sub hl [0, 1, 2, 3, 4, 5, 6, 7, 8, 9, 10, 11, 12, 13] rfl)
            · rw [if_neg c_440] at hv_421
              refine lv_aload_n hx hb dL_turn_186 rfl (lv_at hl 11 rfl) ?_
              refine lv_iload_n hx hb dL_turn_187 rfl (lv_at hl 10 rfl) ?_
              refine lv_iconst (v := 4) hx hb dL_turn_188 (by decide) ?_
              obtain ⟨r_441, hr_441⟩ : ∃ z, z = (F_TC_of r_1 (4 : Int32) (x.1.1 1) (x.1.2.1 0) (x.1.2.1 1) (x.1.2.1 2) (x.1.2.2 0) (x.1.2.2 1) (x.1.1 2) (x.1.2.2 2) (x.1.1 10) (x.1.2.2 3)) := ⟨_, rfl⟩
              rw [bnd_e hr_441] at hv_421
              refine b_alle hr_441 (W1 := fun pa => (xW cI cC cG ad pa x)) (va_runV (As := [.int r_1, .int 4]) (rest := []) ⟨hx, hb, hml, hown, hts⟩ (cu_TC_of l dC dI cI cC cG cZ ad pa x r_1 (4 : Int32) hI.1.1 hI.1.2) (cwV 2 hts gL_turn_X6_of rfl rfl rfl (by decide +kernel) ⟨Nat.le_of_ble_eq_true rfl, Nat.le_of_ble_eq_true rfl⟩) (b_preV hP hK hD (ci := 6) (i0 := 0) (q0 := 0) rfl rfl rfl) rfl rfl hl.1 rfl (lv_room (Nat.le_of_ble_eq_true rfl)) dL_turn_189 ⟨Nat.zero_le _, Nat.zero_le _⟩) hD hS (fun H locs pa hP hD hS => ?_)
              have hP : bP (dC, dI) vwCl (xW cI cC cG ad pa x) H := hP
              have hD : bD A (xW cI cC cG ad pa x) := hD
              refine lv_iload hx hb dL_turn_192 (lv_at hl 9 rfl) ?_
              refine lv_ishr hx hb dL_turn_194 ?_
              refine lv_iconst (v := 1) hx hb dL_turn_195 (by decide) ?_
              refine lv_iand hx hb dL_turn_196 ?_
              refine lv_iconst (v := 1) hx hb dL_turn_197 (by decide) ?_
              refine lv_icmp_ne (tgt := 205) hx hb dL_turn_198 (by decide) (fun c_442 => ?_) (fun c_442 => ?_)
              · rw [if_neg c_442] at hv_421
                refine lv_iconst (v := 0) hx hb dL_turn_205 (by decide) ?_
                subst hv_421
                exact hj206 _ _ _ _ hP hD hS (lv_sub hl [0, 1, 2, 3, 4, 5, 6, 7, 8, 9, 10, 11, 12, 13] rfl)
              · rw [if_pos c_442] at hv_421
                refine lv_iconst (v := 1) hx hb dL_turn_201 (by decide) ?_
                refine lv_goto (tgt := 206) hx hb dL_turn_202 (by decide) ?_
                subst hv_421
                exact hj206 _ _ _ _ hP hD hS (lv_sub hl [0, 1, 2, 3, 4, 5, 6, 7, 8, 9, 10, 11, 12, 13] rfl)
          · rw [if_neg c_417] at hv_336
            by_cases c_443 : r_364 = 3
            · rw [if_pos c_443] at hv_336
              refine lv_tableIn (off := 176) (tgt := 281) hx hb dL_turn_105 (by rw [c_443]; decide) (by rw [c_443]; decide) (by rw [c_443]; rfl) (by decide) ?_
              refine lv_aload_n hx hb dL_turn_281 rfl (lv_at hl 11 rfl) ?_
              refine lv_iload_n hx hb dL_turn_282 rfl (lv_at hl 10 rfl) ?_
              obtain ⟨r_444, hr_444⟩ : ∃ z, z = (F_TC_ifSnipped r_1 (x.1.1 1) (x.1.2.1 0) (x.1.2.1 1) (x.1.2.1 2) (x.1.2.2 0)) := ⟨_, rfl⟩
              rw [bnd_e hr_444] at hv_336
              refine b_alle hr_444 (W1 := fun pa => (xW cI cC cG ad pa x)) (va_runV (As := [.int r_1]) (rest := []) ⟨hx, hb, hml, hown, hts⟩ (cu_TC_ifSnipped l dC dI cI cC cG cZ ad pa x r_1 ) (cwV 1 hts gL_turn_X6_ifSnipped rfl rfl rfl (by decide +kernel) ⟨Nat.le_of_ble_eq_true rfl, Nat.le_of_ble_eq_true rfl⟩) (b_preV hP hK hD (ci := 6) (i0 := 0) (q0 := 0) rfl rfl rfl) rfl rfl hl.1 rfl (lv_room (Nat.le_of_ble_eq_true rfl)) dL_turn_283 ⟨Nat.zero_le _, Nat.zero_le _⟩) hD hS (fun H locs pa hP hD hS => ?_)
              have hP : bP (dC, dI) vwCl (xW cI cC cG ad pa x) H := hP
              have hD : bD A (xW cI cC cG ad pa x) := hD
              refine lv_istore (lv' := [(12, .int r_444), (13, .int 0), (11, .int 0), (10, .int v_14), (9, .int r_9), (8, .int v_8), (7, .int r_5), (6, .int r_4), (5, .int r_3), (4, .int r_2), (3, .int r_1), (0, .ref (ad 0 0)), (1, .int a), (2, .int b)]) hx hb dL_turn_286 hl (by decide) rfl (fun ls hl => ?_)
              obtain ⟨v_456, hv_456⟩ : ∃ z : Int32, z = (if (0 : Int32) ≤ r_444 then (bnd ((bnd (F_TC_of r_1 (4 : Int32) (x.1.1 1) (x.1.2.1 0) (x.1.2.1 1) (x.1.2.1 2) (x.1.2.2 0) (x.1.2.2 1) (x.1.1 2) (x.1.2.2 2) (x.1.1 10) (x.1.2.2 3)) (fun r_446 => (if ((r_446 >>> (r_2 &&& 31)) &&& 1) = 1 then 1 else 0))) : Int32) (fun v_448 => (bnd ((bnd (F_TC_of r_1 (4 : Int32) (x.1.1 1) (x.1.2.1 0) (x.1.2.1 1) (x.1.2.1 2) (x.1.2.2 0) (x.1.2.2 1) (x.1.1 2) (x.1.2.2 2) (x.1.1 10) (x.1.2.2 3)) (fun r_449 => (if ((r_449 >>> (((1 : Int32) - r_2) &&& 31)) &&& 1) = 1 then 3 else 0))) : Int32) (fun v_451 => ((r_444 + v_448) - v_451))))) else 0) := ⟨_, rfl⟩
              rw [bnd_e hv_456] at hv_336
              have hj343 : ∀ (H : Heap) (locs : List Loc) (ls : Array Slot) (pa : Nat → Nat → Nat), bP (dC, dI) vwCl (xW cI cC cG ad pa x) H → bD A (xW cI cC cG ad pa x) → va_S A s.heap H locs → lv_has ls 16 [(12, .int r_444), (13, .int 0), (11, .int 0), (10, .int v_14), (9, .int r_9), (8, .int v_8), (7, .int r_5), (6, .int r_4), (5, .int r_3), (4, .int r_2), (3, .int r_1), (0, .ref (ad 0 0)), (1, .int a), (2, .int b)] → W p l e (headSpec wsL_turn ({ frames := 8, cells := 0, slots := 0, locals := 171 })).room s m ([.ref (ad 0 0), .int a, .int b] : List Value).toArray below meth c H locs 0 0 (MQ below (bQi (dC, dI) vwCl res.1 (fun pa => (xW cI cC cG ad pa res.2)) A) ([.ref (ad 0 0), .int a, .int b] : List Value).toArray s 0 0 A) (F0 m 343 ls [.int v_456]) := by
                intro H locs ls pa hP hD hS hl
                refine lv_istore (lv' := [(13, .int v_456), (12, .int r_444), (11, .int 0), (10, .int v_14), (9, .int r_9), (8, .int v_8), (7, .int r_5), (6, .int r_4), (5, .int r_3), (4, .int r_2), (3, .int r_1), (0, .ref (ad 0 0)), (1, .int a), (2, .int b)]) hx hb dL_turn_343 hl (by decide) rfl (fun ls hl => ?_)
                refine lv_aload_n hx hb dL_turn_345 rfl (lv_at hl 11 rfl) ?_
                refine lv_iload_n hx hb dL_turn_346 rfl (lv_at hl 10 rfl) ?_
                obtain ⟨r_457, hr_457⟩ : ∃ z, z = (X_snip r_1 x) := ⟨_, rfl⟩
                rw [bnd_e hr_457] at hv_336
                refine b_alli (W1 := fun pa => (xW cI cC cG ad pa r_457.2)) (va_runV (As := [.int r_1]) (rest := []) ⟨hx, hb, hml, hown, hts⟩ (cu_TC_snip l dC dI cI cC cG cZ ad pa x r_1 hI.1.1 hI.1.2 hI.2.1 r_457 hr_457) (cwV 1 hts gL_turn_X6_snip rfl rfl rfl (by decide +kernel) ⟨Nat.le_of_ble_eq_true rfl, Nat.le_of_ble_eq_true rfl⟩) (b_preV hP hK hD (ci := 6) (i0 := 0) (q0 := 0) rfl rfl rfl) rfl rfl hl.1 rfl (lv_room (Nat.le_of_ble_eq_true rfl)) dL_turn_347 ⟨Nat.zero_le _, Nat.zero_le _⟩) hD hS (fun H locs pa hP hD hS => ?_)
                have hIr_457 : IX r_457.2 := by rw [hr_457]; exact IX_turn hI
                have hP : bP (dC, dI) vwCl (xW cI cC cG ad pa r_457.2) H := hP
                have hD : bD A (xW cI cC cG ad pa r_457.2) := hD
                refine lv_istore (lv' := [(11, .int r_457.1), (13, .int v_456), (12, .int r_444), (10, .int v_14), (9, .int r_9), (8, .int v_8), (7, .int r_5), (6, .int r_4), (5, .int r_3), (4, .int r_2), (3, .int r_1), (0, .ref (ad 0 0)), (1, .int a), (2, .int b)]) hx hb dL_turn_350 hl (by decide) rfl (fun ls hl => ?_)
                refine lv_goto (tgt := 558) hx hb dL_turn_352 (by decide) ?_
                subst hv_336
                exact hj558 _ _ _ _ hIr_457 hP hD hS (lv_sub hl [1, 2, 0, 3, 4, 5, 6, 7, 8, 9, 10, 11, 12, 13] rfl)
              refine lv_iload hx hb dL_turn_288 (lv_at hl 0 rfl) ?_
              refine lv_if_ge (tgt := 297) hx hb dL_turn_290 (by decide) (fun c_458 => ?_) (fun c_458 => ?_)
              · rw [if_pos c_458] at hv_456
                refine lv_iload hx hb dL_turn_297 (lv_at hl 0 rfl) ?_
                obtain ⟨v_461, hv_461⟩ : ∃ z : Int32, z = (bnd (F_TC_of r_1 (4 : Int32) (x.1.1 1) (x.1.2.1 0) (x.1.2.1 1) (x.1.2.1 2) (x.1.2.2 0) (x.1.2.2 1) (x.1.1 2) (x.1.2.2 2) (x.1.1 10) (x.1.2.2 3)) (fun r_459 => (if ((r_459 >>> (r_2 &&& 31)) &&& 1) = 1 then 1 else 0))) := ⟨_, rfl⟩
                rw [bnd_e hv_461] at hv_456
                have hj319 : ∀ (H : Heap) (locs : List Loc) (ls : Array Slot) (pa : Nat → Nat → Nat), bP (dC, dI) vwCl (xW cI cC cG ad pa x) H → bD A (xW cI cC cG ad pa x) → va_S A s.heap H locs → lv_has ls 16 [(12, .int r_444), (13, .int 0), (11, .int 0), (10, .int v_14), (9, .int r_9), (8, .int v_8), (7, .int r_5), (6, .int r_4), (5, .int r_3), (4, .int r_2), (3, .int r_1), (0, .ref (ad 0 0)), (1, .int a), (2, .int b)] → W p l e (headSpec wsL_turn ({ frames := 8, cells := 0, slots := 0, locals := 171 })).room s m ([.ref (ad 0 0), .int a, .int b] : List Value).toArray below meth c H locs 0 0 (MQ below (bQi (dC, dI) vwCl res.1 (fun pa => (xW cI cC cG ad pa res.2)) A) ([.ref (ad 0 0), .int a, .int b] : List Value).toArray s 0 0 A) (F0 m 319 ls [.int v_461, .int r_444]) := by
                  intro H locs ls pa hP hD hS hl
                  refine lv_iadd hx hb dL_turn_319 ?_
                  obtain ⟨v_464, hv_464⟩ : ∃ z : Int32, z = (bnd (F_TC_of r_1 (4 : Int32) (x.1.1 1) (x.1.2.1 0) (x.1.2.1 1) (x.1.2.1 2) (x.1.2.2 0) (x.1.2.2 1) (x.1.1 2) (x.1.2.2 2) (x.1.1 10) (x.1.2.2 3)) (fun r_462 => (if ((r_462 >>> (((1 : Int32) - r_2) &&& 31)) &&& 1) = 1 then 3 else 0))) := ⟨_, rfl⟩
                  rw [bnd_e hv_464] at hv_456
                  have hj342 : ∀ (H : Heap) (locs : List Loc) (ls : Array Slot) (pa : Nat → Nat → Nat), bP (dC, dI) vwCl (xW cI cC cG ad pa x) H → bD A (xW cI cC cG ad pa x) → va_S A s.heap H locs → lv_has ls 16 [(12, .int r_444), (13, .int 0), (11, .int 0), (10, .int v_14), (9, .int r_9), (8, .int v_8), (7, .int r_5), (6, .int r_4), (5, .int r_3), (4, .int r_2), (3, .int r_1), (0, .ref (ad 0 0)), (1, .int a), (2, .int b)] → W p l e (headSpec wsL_turn ({ frames := 8, cells := 0, slots := 0, locals := 171 })).room s m ([.ref (ad 0 0), .int a, .int b] : List Value).toArray below meth c H locs 0 0 (MQ below (bQi (dC, dI) vwCl res.1 (fun pa => (xW cI cC cG ad pa res.2)) A) ([.ref (ad 0 0), .int a, .int b] : List Value).toArray s 0 0 A) (F0 m 342 ls [.int v_464, .int (r_444 + v_461)]) := by
                    intro H locs ls pa hP hD hS hl
                    refine lv_isub hx hb dL_turn_342 ?_
                    subst hv_456
                    exact hj343 _ _ _ _ hP hD hS (lv_sub hl [0, 1, 2, 3, 4, 5, 6, 7, 8, 9, 10, 11, 12, 13] rfl)
                  refine lv_aload_n hx hb dL_turn_320 rfl (lv_at hl 11 rfl) ?_
                  refine lv_iload_n hx hb dL_turn_321 rfl (lv_at hl 10 rfl) ?_
                  refine lv_iconst (v := 4) hx hb dL_turn_322 (by decide) ?_
                  obtain ⟨r_465, hr_465⟩ : ∃ z, z = (F_TC_of r_1 (4 : Int32) (x.1.1 1) (x.1.2.1 0) (x.1.2.1 1) (x.1.2.1 2) (x.1.2.2 0) (x.1.2.2 1) (x.1.1 2) (x.1.2.2 2) (x.1.1 10) (x.1.2.2 3)) := ⟨_, rfl⟩
                  rw [bnd_e hr_465] at hv_464
                  refine b_alle hr_465 (W1 := fun pa => (xW cI cC cG ad pa x)) (va_runV (As := [.int r_1, .int 4]) (rest := [.int (r_444 + v_461)]) ⟨hx, hb, hml, hown, hts⟩ (cu_TC_of l dC dI cI cC cG cZ ad pa x r_1 (4 : Int32) hI.1.1 hI.1.2) (cwV 2 hts gL_turn_X6_of rfl rfl rfl (by decide +kernel) ⟨Nat.le_of_ble_eq_true rfl, Nat.le_of_ble_eq_true rfl⟩) (b_preV hP hK hD (ci := 6) (i0 := 0) (q0 := 0) rfl rfl rfl) rfl rfl hl.1 rfl (lv_room (Nat.le_of_ble_eq_true rfl)) dL_turn_323 ⟨Nat.zero_le _, Nat.zero_le _⟩) hD hS (fun H locs pa hP hD hS => ?_)
                  have hP : bP (dC, dI) vwCl (xW cI cC cG ad pa x) H := hP
                  have hD : bD A (xW cI cC cG ad pa x) := hD
                  refine lv_iconst (v := 1) hx hb dL_turn_326 (by decide) ?_
                  refine lv_iload hx hb dL_turn_327 (lv_at hl 9 rfl) ?_
                  refine lv_isub hx hb dL_turn_329 ?_
                  refine lv_ishr hx hb dL_turn_330 ?_
                  refine lv_iconst (v := 1) hx hb dL_turn_331 (by decide) ?_
                  refine lv_iand hx hb dL_turn_332 ?_
                  refine lv_iconst (v := 1) hx hb dL_turn_333 (by decide) ?_
                  refine lv_icmp_ne (tgt := 341) hx hb dL_turn_334 (by decide) (fun c_466 => ?_) (fun c_466 => ?_)
                  · rw [if_neg c_466] at hv_464
                    refine lv_iconst (v := 0) hx hb dL_turn_341 (by decide) ?_
                    subst hv_464
                    exact hj342 _ _ _ _ hP hD hS (lv_sub hl [0, 1, 2, 3, 4, 5, 6, 7, 8, 9, 10, 11, 12, 13] rfl)
                  · rw [if_pos c_466] at hv_464
                    refine lv_iconst (v := 3) hx hb dL_turn_337 (by decide) ?_
                    refine lv_goto (tgt := 342) hx hb dL_turn_338 (by decide) ?_
                    subst hv_464
                    exact hj342 _ _ _ _ hP hD hS (lv_sub hl [0, 1, 2, 3, 4, 5, 6, 7, 8, 9, 10, 11, 12, 13] rfl)
                refine lv_aload_n hx hb dL_turn_299 rfl (lv_at hl 11 rfl) ?_
                refine lv_iload_n hx hb dL_turn_300 rfl (lv_at hl 10 rfl) ?_
                refine lv_iconst (v := 4) hx hb dL_turn_301 (by decide) ?_
                obtain ⟨r_467, hr_467⟩ : ∃ z, z = (F_TC_of r_1 (4 : Int32) (x.1.1 1) (x.1.2.1 0) (x.1.2.1 1) (x.1.2.1 2) (x.1.2.2 0) (x.1.2.2 1) (x.1.1 2) (x.1.2.2 2) (x.1.1 10) (x.1.2.2 3)) := ⟨_, rfl⟩
                rw [bnd_e hr_467] at hv_461
                refine b_alle hr_467 (W1 := fun pa => (xW cI cC cG ad pa x)) (va_runV (As := [.int r_1, .int 4]) (rest := [.int r_444]) ⟨hx, hb, hml, hown, hts⟩ (cu_TC_of l dC dI cI cC cG cZ ad pa x r_1 (4 : Int32) hI.1.1 hI.1.2) (cwV 2 hts gL_turn_X6_of rfl rfl rfl (by decide +kernel) ⟨Nat.le_of_ble_eq_true rfl, Nat.le_of_ble_eq_true rfl⟩) (b_preV hP hK hD (ci := 6) (i0 := 0) (q0 := 0) rfl rfl rfl) rfl rfl hl.1 rfl (lv_room (Nat.le_of_ble_eq_true rfl)) dL_turn_302 ⟨Nat.zero_le _, Nat.zero_le _⟩) hD hS (fun H locs pa hP hD hS => ?_)
                have hP : bP (dC, dI) vwCl (xW cI cC cG ad pa x) H := hP
                have hD : bD A (xW cI cC cG ad pa x) := hD
                refine lv_iload hx hb dL_turn_305 (lv_at hl 9 rfl) ?_
                refine lv_ishr hx hb dL_turn_307 ?_
                refine lv_iconst (v := 1) hx hb dL_turn_308 (by decide) ?_
                refine lv_iand hx hb dL_turn_309 ?_
                refine lv_iconst (v := 1) hx hb dL_turn_310 (by decide) ?_
                refine lv_icmp_ne (tgt := 318) hx hb dL_turn_311 (by decide) (fun c_468 => ?_) (fun c_468 => ?_)
                · rw [if_neg c_468] at hv_461
                  refine lv_iconst (v := 0) hx hb dL_turn_318 (by decide) ?_
                  subst hv_461
                  exact hj319 _ _ _ _ hP hD hS (lv_sub hl [0, 1, 2, 3, 4, 5, 6, 7, 8, 9, 10, 11, 12, 13] rfl)
                · rw [if_pos c_468] at hv_461
                  refine lv_iconst (v := 1) hx hb dL_turn_314 (by decide) ?_
                  refine lv_goto (tgt := 319) hx hb dL_turn_315 (by decide) ?_
                  subst hv_461
                  exact hj319 _ _ _ _ hP hD hS (lv_sub hl [0, 1, 2, 3, 4, 5, 6, 7, 8, 9, 10, 11, 12, 13] rfl)
              · rw [if_neg c_458] at hv_456
                refine lv_iconst (v := 0) hx hb dL_turn_293 (by decide) ?_
                refine lv_goto (tgt := 343) hx hb dL_turn_294 (by decide) ?_
                subst hv_456
                exact hj343 _ _ _ _ hP hD hS (lv_sub hl [0, 1, 2, 3, 4, 5, 6, 7, 8, 9, 10, 11, 12, 13] rfl)
            · rw [if_neg c_443] at hv_336
              by_cases c_469 : r_364 = 4
              · rw [if_pos c_469] at hv_336
                refine lv_tableIn (off := 176) (tgt := 281) hx hb dL_turn_105 (by rw [c_469]; decide) (by rw [c_469]; decide) (by rw [c_469]; rfl) (by decide) ?_
                refine lv_aload_n hx hb dL_turn_281 rfl (lv_at hl 11 rfl) ?_
                refine lv_iload_n hx hb dL_turn_282 rfl (lv_at hl 10 rfl) ?_
                obtain ⟨r_470, hr_470⟩ : ∃ z, z = (F_TC_ifSnipped r_1 (x.1.1 1) (x.1.2.1 0) (x.1.2.1 1) (x.1.2.1 2) (x.1.2.2 0)) := ⟨_, rfl⟩
                rw [bnd_e hr_470] at hv_336
                refine b_alle hr_470 (W1 := fun pa => (xW cI cC cG ad pa x)) (va_runV (As := [.int r_1]) (rest := []) ⟨hx, hb, hml, hown, hts⟩ (cu_TC_ifSnipped l dC dI cI cC cG cZ ad pa x r_1 ) (cwV 1 hts gL_turn_X6_ifSnipped rfl rfl rfl (by decide +kernel) ⟨Nat.le_of_ble_eq_true rfl, Nat.le_of_ble_eq_true rfl⟩) (b_preV hP hK hD (ci := 6) (i0 := 0) (q0 := 0) rfl rfl rfl) rfl rfl hl.1 rfl (lv_room (Nat.le_of_ble_eq_true rfl)) dL_turn_283 ⟨Nat.zero_le _, Nat.zero_le _⟩) hD hS (fun H locs pa hP hD hS => ?_)
                have hP : bP (dC, dI) vwCl (xW cI cC cG ad pa x) H := hP
                have hD : bD A (xW cI cC cG ad pa x) := hD
                refine lv_istore (lv' := [(12, .int r_470), (13, .int 0), (11, .int 0), (10, .int v_14), (9, .int r_9), (8, .int v_8), (7, .int r_5), (6, .int r_4), (5, .int r_3), (4, .int r_2), (3, .int r_1), (0, .ref (ad 0 0)), (1, .int a), (2, .int b)]) hx hb dL_turn_286 hl (by decide) rfl (fun ls hl => ?_)
                obtain ⟨v_482, hv_482⟩ : ∃ z : Int32, z = (if (0 : Int32) ≤ r_470 then (bnd ((bnd (F_TC_of r_1 (4 : Int32) (x.1.1 1) (x.1.2.1 0) (x.1.2.1 1) (x.1.2.1 2) (x.1.2.2 0) (x.1.2.2 1) (x.1.1 2) (x.1.2.2 2) (x.1.1 10) (x.1.2.2 3)) (fun r_472 => (if ((r_472 >>> (r_2 &&& 31)) &&& 1) = 1 then 1 else 0))) : Int32) (fun v_474 => (bnd ((bnd (F_TC_of r_1 (4 : Int32) (x.1.1 1) (x.1.2.1 0) (x.1.2.1 1) (x.1.2.1 2) (x.1.2.2 0) (x.1.2.2 1) (x.1.1 2) (x.1.2.2 2) (x.1.1 10) (x.1.2.2 3)) (fun r_475 => (if ((r_475 >>> (((1 : Int32) - r_2) &&& 31)) &&& 1) = 1 then 3 else 0))) : Int32) (fun v_477 => ((r_470 + v_474) - v_477))))) else 0) := ⟨_, rfl⟩
                rw [bnd_e hv_482] at hv_336
                have hj343 : ∀ (H : Heap) (locs : List Loc) (ls : Array Slot) (pa : Nat → Nat → Nat), bP (dC, dI) vwCl (xW cI cC cG ad pa x) H → bD A (xW cI cC cG ad pa x) → va_S A s.heap H locs → lv_has ls 16 [(12, .int r_470), (13, .int 0), (11, .int 0), (10, .int v_14), (9, .int r_9), (8, .int v_8), (7, .int r_5), (6, .int r_4), (5, .int r_3), (4, .int r_2), (3, .int r_1), (0, .ref (ad 0 0)), (1, .int a), (2, .int b)] → W p l e (headSpec wsL_turn ({ frames := 8, cells := 0, slots := 0, locals := 171 })).room s m ([.ref (ad 0 0), .int a, .int b] : List Value).toArray below meth c H locs 0 0 (MQ below (bQi (dC, dI) vwCl res.1 (fun pa => (xW cI cC cG ad pa res.2)) A) ([.ref (ad 0 0), .int a, .int b] : List Value).toArray s 0 0 A) (F0 m 343 ls [.int v_482]) := by
                  intro H locs ls pa hP hD hS hl
                  refine lv_istore (lv' := [(13, .int v_482), (12, .int r_470), (11, .int 0), (10, .int v_14), (9, .int r_9), (8, .int v_8), (7, .int r_5), (6, .int r_4), (5, .int r_3), (4, .int r_2), (3, .int r_1), (0, .ref (ad 0 0)), (1, .int a), (2, .int b)]) hx hb dL_turn_343 hl (by decide) rfl (fun ls hl => ?_)
                  refine lv_aload_n hx hb dL_turn_345 rfl (lv_at hl 11 rfl) ?_
                  refine lv_iload_n hx hb dL_turn_346 rfl (lv_at hl 10 rfl) ?_
                  obtain ⟨r_483, hr_483⟩ : ∃ z, z = (X_snip r_1 x) := ⟨_, rfl⟩
                  rw [bnd_e hr_483] at hv_336
                  refine b_alli (W1 := fun pa => (xW cI cC cG ad pa r_483.2)) (va_runV (As := [.int r_1]) (rest := []) ⟨hx, hb, hml, hown, hts⟩ (cu_TC_snip l dC dI cI cC cG cZ ad pa x r_1 hI.1.1 hI.1.2 hI.2.1 r_483 hr_483) (cwV 1 hts gL_turn_X6_snip rfl rfl rfl (by decide +kernel) ⟨Nat.le_of_ble_eq_true rfl, Nat.le_of_ble_eq_true rfl⟩) (b_preV hP hK hD (ci := 6) (i0 := 0) (q0 := 0) rfl rfl rfl) rfl rfl hl.1 rfl (lv_room (Nat.le_of_ble_eq_true rfl)) dL_turn_347 ⟨Nat.zero_le _, Nat.zero_le _⟩) hD hS (fun H locs pa hP hD hS => ?_)
                  have hIr_483 : IX r_483.2 := by rw [hr_483]; exact IX_turn hI
                  have hP : bP (dC, dI) vwCl (xW cI cC cG ad pa r_483.2) H := hP
                  have hD : bD A (xW cI cC cG ad pa r_483.2) := hD
                  refine lv_istore (lv' := [(11, .int r_483.1), (13, .int v_482), (12, .int r_470), (10, .int v_14), (9, .int r_9), (8, .int v_8), (7, .int r_5), (6, .int r_4), (5, .int r_3), (4, .int r_2), (3, .int r_1), (0, .ref (ad 0 0)), (1, .int a), (2, .int b)]) hx hb dL_turn_350 hl (by decide) rfl (fun ls hl => ?_)
                  refine lv_goto (tgt := 558) hx hb dL_turn_352 (by decide) ?_
                  subst hv_336
                  exact hj558 _ _ _ _ hIr_483 hP hD hS (lv_sub hl [1, 2, 0, 3, 4, 5, 6, 7, 8, 9, 10, 11, 12, 13] rfl)
                refine lv_iload hx hb dL_turn_288 (lv_at hl 0 rfl) ?_
                refine lv_if_ge (tgt := 297) hx hb dL_turn_290 (by decide) (fun c_484 => ?_) (fun c_484 => ?_)
                · rw [if_pos c_484] at hv_482
                  refine lv_iload hx hb dL_turn_297 (lv_at hl 0 rfl) ?_
                  obtain ⟨v_487, hv_487⟩ : ∃ z : Int32, z = (bnd (F_TC_of r_1 (4 : Int32) (x.1.1 1) (x.1.2.1 0) (x.1.2.1 1) (x.1.2.1 2) (x.1.2.2 0) (x.1.2.2 1) (x.1.1 2) (x.1.2.2 2) (x.1.1 10) (x.1.2.2 3)) (fun r_485 => (if ((r_485 >>> (r_2 &&& 31)) &&& 1) = 1 then 1 else 0))) := ⟨_, rfl⟩
                  rw [bnd_e hv_487] at hv_482
                  have hj319 : ∀ (H : Heap) (locs : List Loc) (ls : Array Slot) (pa : Nat → Nat → Nat), bP (dC, dI) vwCl (xW cI cC cG ad pa x) H → bD A (xW cI cC cG ad pa x) → va_S A s.heap H locs → lv_has ls 16 [(12, .int r_470), (13, .int 0), (11, .int 0), (10, .int v_14), (9, .int r_9), (8, .int v_8), (7, .int r_5), (6, .int r_4), (5, .int r_3), (4, .int r_2), (3, .int r_1), (0, .ref (ad 0 0)), (1, .int a), (2, .int b)] → W p l e (headSpec wsL_turn ({ frames := 8, cells := 0, slots := 0, locals := 171 })).room s m ([.ref (ad 0 0), .int a, .int b] : List Value).toArray below meth c H locs 0 0 (MQ below (bQi (dC, dI) vwCl res.1 (fun pa => (xW cI cC cG ad pa res.2)) A) ([.ref (ad 0 0), .int a, .int b] : List Value).toArray s 0 0 A) (F0 m 319 ls [.int v_487, .int r_470]) := by
                    intro H locs ls pa hP hD hS hl
                    refine lv_iadd hx hb dL_turn_319 ?_
                    obtain ⟨v_490, hv_490⟩ : ∃ z : Int32, z = (bnd (F_TC_of r_1 (4 : Int32) (x.1.1 1) (x.1.2.1 0) (x.1.2.1 1) (x.1.2.1 2) (x.1.2.2 0) (x.1.2.2 1) (x.1.1 2) (x.1.2.2 2) (x.1.1 10) (x.1.2.2 3)) (fun r_488 => (if ((r_488 >>> (((1 : Int32) - r_2) &&& 31)) &&& 1) = 1 then 3 else 0))) := ⟨_, rfl⟩
                    rw [bnd_e hv_490] at hv_482
                    have hj342 : ∀ (H : Heap) (locs : List Loc) (ls : Array Slot) (pa : Nat → Nat → Nat), bP (dC, dI) vwCl (xW cI cC cG ad pa x) H → bD A (xW cI cC cG ad pa x) → va_S A s.heap H locs → lv_has ls 16 [(12, .int r_470), (13, .int 0), (11, .int 0), (10, .int v_14), (9, .int r_9), (8, .int v_8), (7, .int r_5), (6, .int r_4), (5, .int r_3), (4, .int r_2), (3, .int r_1), (0, .ref (ad 0 0)), (1, .int a), (2, .int b)] → W p l e (headSpec wsL_turn ({ frames := 8, cells := 0, slots := 0, locals := 171 })).room s m ([.ref (ad 0 0), .int a, .int b] : List Value).toArray below meth c H locs 0 0 (MQ below (bQi (dC, dI) vwCl res.1 (fun pa => (xW cI cC cG ad pa res.2)) A) ([.ref (ad 0 0), .int a, .int b] : List Value).toArray s 0 0 A) (F0 m 342 ls [.int v_490, .int (r_470 + v_487)]) := by
                      intro H locs ls pa hP hD hS hl
                      refine lv_isub hx hb dL_turn_342 ?_
                      subst hv_482
                      exact hj343 _ _ _ _ hP hD hS (lv_sub hl [0, 1, 2, 3, 4, 5, 6, 7, 8, 9, 10, 11, 12, 13] rfl)
                    refine lv_aload_n hx hb dL_turn_320 rfl (lv_at hl 11 rfl) ?_
                    refine lv_iload_n hx hb dL_turn_321 rfl (lv_at hl 10 rfl) ?_
                    refine lv_iconst (v := 4) hx hb dL_turn_322 (by decide) ?_
                    obtain ⟨r_491, hr_491⟩ : ∃ z, z = (F_TC_of r_1 (4 : Int32) (x.1.1 1) (x.1.2.1 0) (x.1.2.1 1) (x.1.2.1 2) (x.1.2.2 0) (x.1.2.2 1) (x.1.1 2) (x.1.2.2 2) (x.1.1 10) (x.1.2.2 3)) := ⟨_, rfl⟩
                    rw [bnd_e hr_491] at hv_490
                    refine b_alle hr_491 (W1 := fun pa => (xW cI cC cG ad pa x)) (va_runV (As := [.int r_1, .int 4]) (rest := [.int (r_470 + v_487)]) ⟨hx, hb, hml, hown, hts⟩ (cu_TC_of l dC dI cI cC cG cZ ad pa x r_1 (4 : Int32) hI.1.1 hI.1.2) (cwV 2 hts gL_turn_X6_of rfl rfl rfl (by decide +kernel) ⟨Nat.le_of_ble_eq_true rfl, Nat.le_of_ble_eq_true rfl⟩) (b_preV hP hK hD (ci := 6) (i0 := 0) (q0 := 0) rfl rfl rfl) rfl rfl hl.1 rfl (lv_room (Nat.le_of_ble_eq_true rfl)) dL_turn_323 ⟨Nat.zero_le _, Nat.zero_le _⟩) hD hS (fun H locs pa hP hD hS => ?_)
                    have hP : bP (dC, dI) vwCl (xW cI cC cG ad pa x) H := hP
                    have hD : bD A (xW cI cC cG ad pa x) := hD
                    refine lv_iconst (v := 1) hx hb dL_turn_326 (by decide) ?_
                    refine lv_iload hx hb dL_turn_327 (lv_at hl 9 rfl) ?_
                    refine lv_isub hx hb dL_turn_329 ?_
                    refine lv_ishr hx hb dL_turn_330 ?_
                    refine lv_iconst (v := 1) hx hb dL_turn_331 (by decide) ?_
                    refine lv_iand hx hb dL_turn_332 ?_
                    refine lv_iconst (v := 1) hx hb dL_turn_333 (by decide) ?_
                    refine lv_icmp_ne (tgt := 341) hx hb dL_turn_334 (by decide) (fun c_492 => ?_) (fun c_492 => ?_)
                    · rw [if_neg c_492] at hv_490
                      refine lv_iconst (v := 0) hx hb dL_turn_341 (by decide) ?_
                      subst hv_490
                      exact hj342 _ _ _ _ hP hD hS (lv_sub hl [0, 1, 2, 3, 4, 5, 6, 7, 8, 9, 10, 11, 12, 13] rfl)
                    · rw [if_pos c_492] at hv_490
                      refine lv_iconst (v := 3) hx hb dL_turn_337 (by decide) ?_
                      refine lv_goto (tgt := 342) hx hb dL_turn_338 (by decide) ?_
                      subst hv_490
                      exact hj342 _ _ _ _ hP hD hS (lv_sub hl [0, 1, 2, 3, 4, 5, 6, 7, 8, 9, 10, 11, 12, 13] rfl)
                  refine lv_aload_n hx hb dL_turn_299 rfl (lv_at hl 11 rfl) ?_
                  refine lv_iload_n hx hb dL_turn_300 rfl (lv_at hl 10 rfl) ?_
                  refine lv_iconst (v := 4) hx hb dL_turn_301 (by decide) ?_
                  obtain ⟨r_493, hr_493⟩ : ∃ z, z = (F_TC_of r_1 (4 : Int32) (x.1.1 1) (x.1.2.1 0) (x.1.2.1 1) (x.1.2.1 2) (x.1.2.2 0) (x.1.2.2 1) (x.1.1 2) (x.1.2.2 2) (x.1.1 10) (x.1.2.2 3)) := ⟨_, rfl⟩
                  rw [bnd_e hr_493] at hv_487
                  refine b_alle hr_493 (W1 := fun pa => (xW cI cC cG ad pa x)) (va_runV (As := [.int r_1, .int 4]) (rest := [.int r_470]) ⟨hx, hb, hml, hown, hts⟩ (cu_TC_of l dC dI cI cC cG cZ ad pa x r_1 (4 : Int32) hI.1.1 hI.1.2) (cwV 2 hts gL_turn_X6_of rfl rfl rfl (by decide +kernel) ⟨Nat.le_of_ble_eq_true rfl, Nat.le_of_ble_eq_true rfl⟩) (b_preV hP hK hD (ci := 6) (i0 := 0) (q0 := 0) rfl rfl rfl) rfl rfl hl.1 rfl (lv_room (Nat.le_of_ble_eq_true rfl)) dL_turn_302 ⟨Nat.zero_le _, Nat.zero_le _⟩) hD hS (fun H locs pa hP hD hS => ?_)
                  have hP : bP (dC, dI) vwCl (xW cI cC cG ad pa x) H := hP
                  have hD : bD A (xW cI cC cG ad pa x) := hD
                  refine lv_iload hx hb dL_turn_305 (lv_at hl 9 rfl) ?_
                  refine lv_ishr hx hb dL_turn_307 ?_
                  refine lv_iconst (v := 1) hx hb dL_turn_308 (by decide) ?_
                  refine lv_iand hx hb dL_turn_309 ?_
                  refine lv_iconst (v := 1) hx hb dL_turn_310 (by decide) ?_
                  refine lv_icmp_ne (tgt := 318) hx hb dL_turn_311 (by decide) (fun c_494 => ?_) (fun c_494 => ?_)
                  · rw [if_neg c_494] at hv_487
                    refine lv_iconst (v := 0) hx hb dL_turn_318 (by decide) ?_
                    subst hv_487
                    exact hj319 _ _ _ _ hP hD hS (lv_sub hl [0, 1, 2, 3, 4, 5, 6, 7, 8, 9, 10, 11, 12, 13] rfl)
                  · rw [if_pos c_494] at hv_487
                    refine lv_iconst (v := 1) hx hb dL_turn_314 (by decide) ?_
                    refine lv_goto (tgt := 319) hx hb dL_turn_315 (by decide) ?_
                    subst hv_487
                    exact hj319 _ _ _ _ hP hD hS (lv_sub hl [0, 1, 2, 3, 4, 5, 6, 7, 8, 9, 10, 11, 12, 13] rfl)
                · rw [if_neg c_484] at hv_482
                  refine lv_iconst (v := 0) hx hb dL_turn_293 (by decide) ?_
                  refine lv_goto (tgt := 343) hx hb dL_turn_294 (by decide) ?_
                  subst hv_482
                  exact hj343 _ _ _ _ hP hD hS (lv_sub hl [0, 1, 2, 3, 4, 5, 6, 7, 8, 9, 10, 11, 12, 13] rfl)
              · rw [if_neg c_469] at hv_336
                by_cases c_495 : r_364 = 5
                · rw [if_pos c_495] at hv_336
                  refine lv_tableIn (off := 176) (tgt := 281) hx hb dL_turn_105 (by rw [c_495]; decide) (by rw [c_495]; decide) (by rw [c_495]; rfl) (by decide) ?_
                  refine lv_aload_n hx hb dL_turn_281 rfl (lv_at hl 11 rfl) ?_
                  refine lv_iload_n hx hb dL_turn_282 rfl (lv_at hl 10 rfl) ?_
                  obtain ⟨r_496, hr_496⟩ : ∃ z, z = (F_TC_ifSnipped r_1 (x.1.1 1) (x.1.2.1 0) (x.1.2.1 1) (x.1.2.1 2) (x.1.2.2 0)) := ⟨_, rfl⟩
                  rw [bnd_e hr_496] at hv_336
                  refine b_alle hr_496 (W1 := fun pa => (xW cI cC cG ad pa x)) (va_runV (As := [.int r_1]) (rest := []) ⟨hx, hb, hml, hown, hts⟩ (cu_TC_ifSnipped l dC dI cI cC cG cZ ad pa x r_1 ) (cwV 1 hts gL_turn_X6_ifSnipped rfl rfl rfl (by decide +kernel) ⟨Nat.le_of_ble_eq_true rfl, Nat.le_of_ble_eq_true rfl⟩) (b_preV hP hK hD (ci := 6) (i0 := 0) (q0 := 0) rfl rfl rfl) rfl rfl hl.1 rfl (lv_room (Nat.le_of_ble_eq_true rfl)) dL_turn_283 ⟨Nat.zero_le _, Nat.zero_le _⟩) hD hS (fun H locs pa hP hD hS => ?_)
                  have hP : bP (dC, dI) vwCl (xW cI cC cG ad pa x) H := hP
                  have hD : bD A (xW cI cC cG ad pa x) := hD
                  refine lv_istore (lv' := [(12, .int r_496), (13, .int 0), (11, .int 0), (10, .int v_14), (9, .int r_9), (8, .int v_8), (7, .int r_5), (6, .int r_4), (5, .int r_3), (4, .int r_2), (3, .int r_1), (0, .ref (ad 0 0)), (1, .int a), (2, .int b)]) hx hb dL_turn_286 hl (by decide) rfl (fun ls hl => ?_)
                  obtain ⟨v_508, hv_508⟩ : ∃ z : Int32, z = (if (0 : Int32) ≤ r_496 then (bnd ((bnd (F_TC_of r_1 (4 : Int32) (x.1.1 1) (x.1.2.1 0) (x.1.2.1 1) (x.1.2.1 2) (x.1.2.2 0) (x.1.2.2 1) (x.1.1 2) (x.1.2.2 2) (x.1.1 10) (x.1.2.2 3)) (fun r_498 => (if ((r_498 >>> (r_2 &&& 31)) &&& 1) = 1 then 1 else 0))) : Int32) (fun v_500 => (bnd ((bnd (F_TC_of r_1 (4 : Int32) (x.1.1 1) (x.1.2.1 0) (x.1.2.1 1) (x.1.2.1 2) (x.1.2.2 0) (x.1.2.2 1) (x.1.1 2) (x.1.2.2 2) (x.1.1 10) (x.1.2.2 3)) (fun r_501 => (if ((r_501 >>> (((1 : Int32) - r_2) &&& 31)) &&& 1) = 1 then 3 else 0))) : Int32) (fun v_503 => ((r_496 + v_500) - v_503))))) else 0) := ⟨_, rfl⟩
                  rw [bnd_e hv_508] at hv_336
                  have hj343 : ∀ (H : Heap) (locs : List Loc) (ls : Array Slot) (pa : Nat → Nat → Nat), bP (dC, dI) vwCl (xW cI cC cG ad pa x) H → bD A (xW cI cC cG ad pa x) → va_S A s.heap H locs → lv_has ls 16 [(12, .int r_496), (13, .int 0), (11, .int 0), (10, .int v_14), (9, .int r_9), (8, .int v_8), (7, .int r_5), (6, .int r_4), (5, .int r_3), (4, .int r_2), (3, .int r_1), (0, .ref (ad 0 0)), (1, .int a), (2, .int b)] → W p l e (headSpec wsL_turn ({ frames := 8, cells := 0, slots := 0, locals := 171 })).room s m ([.ref (ad 0 0), .int a, .int b] : List Value).toArray below meth c H locs 0 0 (MQ below (bQi (dC, dI) vwCl res.1 (fun pa => (xW cI cC cG ad pa res.2)) A) ([.ref (ad 0 0), .int a, .int b] : List Value).toArray s 0 0 A) (F0 m 343 ls [.int v_508]) := by
                    intro H locs ls pa hP hD hS hl
                    refine lv_istore (lv' := [(13, .int v_508), (12, .int r_496), (11, .int 0), (10, .int v_14), (9, .int r_9), (8, .int v_8), (7, .int r_5), (6, .int r_4), (5, .int r_3), (4, .int r_2), (3, .int r_1), (0, .ref (ad 0 0)), (1, .int a), (2, .int b)]) hx hb dL_turn_343 hl (by decide) rfl (fun ls hl => ?_)
                    refine lv_aload_n hx hb dL_turn_345 rfl (lv_at hl 11 rfl) ?_
                    refine lv_iload_n hx hb dL_turn_346 rfl (lv_at hl 10 rfl) ?_
                    obtain ⟨r_509, hr_509⟩ : ∃ z, z = (X_snip r_1 x) := ⟨_, rfl⟩
                    rw [bnd_e hr_509] at hv_336
                    refine b_alli (W1 := fun pa => (xW cI cC cG ad pa r_509.2)) (va_runV (As := [.int r_1]) (rest := []) ⟨hx, hb, hml, hown, hts⟩ (cu_TC_snip l dC dI cI cC cG cZ ad pa x r_1 hI.1.1 hI.1.2 hI.2.1 r_509 hr_509) (cwV 1 hts gL_turn_X6_snip rfl rfl rfl (by decide +kernel) ⟨Nat.le_of_ble_eq_true rfl, Nat.le_of_ble_eq_true rfl⟩) (b_preV hP hK hD (ci := 6) (i0 := 0) (q0 := 0) rfl rfl rfl) rfl rfl hl.1 rfl (lv_room (Nat.le_of_ble_eq_true rfl)) dL_turn_347 ⟨Nat.zero_le _, Nat.zero_le _⟩) hD hS (fun H locs pa hP hD hS => ?_)
                    have hIr_509 : IX r_509.2 := by rw [hr_509]; exact IX_turn hI
                    have hP : bP (dC, dI) vwCl (xW cI cC cG ad pa r_509.2) H := hP
                    have hD : bD A (xW cI cC cG ad pa r_509.2) := hD
                    refine lv_istore (lv' := [(11, .int r_509.1), (13, .int v_508), (12, .int r_496), (10, .int v_14), (9, .int r_9), (8, .int v_8), (7, .int r_5), (6, .int r_4), (5, .int r_3), (4, .int r_2), (3, .int r_1), (0, .ref (ad 0 0)), (1, .int a), (2, .int b)]) hx hb dL_turn_350 hl (by decide) rfl (fun ls hl => ?_)
                    refine lv_goto (tgt := 558) hx hb dL_turn_352 (by decide) ?_
                    subst hv_336
                    exact hj558 _ _ _ _ hIr_509 hP hD hS (lv_sub hl [1, 2, 0, 3, 4, 5, 6, 7, 8, 9, 10, 11, 12, 13] rfl)
                  refine lv_iload hx hb dL_turn_288 (lv_at hl 0 rfl) ?_
                  refine lv_if_ge (tgt := 297) hx hb dL_turn_290 (by decide) (fun c_510 => ?_) (fun c_510 => ?_)
                  · rw [if_pos c_510] at hv_508
                    refine lv_iload hx hb dL_turn_297 (lv_at hl 0 rfl) ?_
                    obtain ⟨v_513, hv_513⟩ : ∃ z : Int32, z = (bnd (F_TC_of r_1 (4 : Int32) (x.1.1 1) (x.1.2.1 0) (x.1.2.1 1) (x.1.2.1 2) (x.1.2.2 0) (x.1.2.2 1) (x.1.1 2) (x.1.2.2 2) (x.1.1 10) (x.1.2.2 3)) (fun r_511 => (if ((r_511 >>> (r_2 &&& 31)) &&& 1) = 1 then 1 else 0))) := ⟨_, rfl⟩
                    rw [bnd_e hv_513] at hv_508
                    have hj319 : ∀ (H : Heap) (locs : List Loc) (ls : Array Slot) (pa : Nat → Nat → Nat), bP (dC, dI) vwCl (xW cI cC cG ad pa x) H → bD A (xW cI cC cG ad pa x) → va_S A s.heap H locs → lv_has ls 16 [(12, .int r_496), (13, .int 0), (11, .int 0), (10, .int v_14), (9, .int r_9), (8, .int v_8), (7, .int r_5), (6, .int r_4), (5, .int r_3), (4, .int r_2), (3, .int r_1), (0, .ref (ad 0 0)), (1, .int a), (2, .int b)] → W p l e (headSpec wsL_turn ({ frames := 8, cells := 0, slots := 0, locals := 171 })).room s m ([.ref (ad 0 0), .int a, .int b] : List Value).toArray below meth c H locs 0 0 (MQ below (bQi (dC, dI) vwCl res.1 (fun pa => (xW cI cC cG ad pa res.2)) A) ([.ref (ad 0 0), .int a, .int b] : List Value).toArray s 0 0 A) (F0 m 319 ls [.int v_513, .int r_496]) := by
                      intro H locs ls pa hP hD hS hl
                      refine lv_iadd hx hb dL_turn_319 ?_
                      obtain ⟨v_516, hv_516⟩ : ∃ z : Int32, z = (bnd (F_TC_of r_1 (4 : Int32) (x.1.1 1) (x.1.2.1 0) (x.1.2.1 1) (x.1.2.1 2) (x.1.2.2 0) (x.1.2.2 1) (x.1.1 2) (x.1.2.2 2) (x.1.1 10) (x.1.2.2 3)) (fun r_514 => (if ((r_514 >>> (((1 : Int32) - r_2) &&& 31)) &&& 1) = 1 then 3 else 0))) := ⟨_, rfl⟩
                      rw [bnd_e hv_516] at hv_508
                      have hj342 : ∀ (H : Heap) (locs : List Loc) (ls : Array Slot) (pa : Nat → Nat → Nat), bP (dC, dI) vwCl (xW cI cC cG ad pa x) H → bD A (xW cI cC cG ad pa x) → va_S A s.heap H locs → lv_has ls 16 [(12, .int r_496), (13, .int 0), (11, .int 0), (10, .int v_14), (9, .int r_9), (8, .int v_8), (7, .int r_5), (6, .int r_4), (5, .int r_3), (4, .int r_2), (3, .int r_1), (0, .ref (ad 0 0)), (1, .int a), (2, .int b)] → W p l e (headSpec wsL_turn ({ frames := 8, cells := 0, slots := 0, locals := 171 })).room s m ([.ref (ad 0 0), .int a, .int b] : List Value).toArray below meth c H locs 0 0 (MQ below (bQi (dC, dI) vwCl res.1 (fun pa => (xW cI cC cG ad pa res.2)) A) ([.ref (ad 0 0), .int a, .int b] : List Value).toArray s 0 0 A) (F0 m 342 ls [.int v_516, .int (r_496 + v_513)]) := by
                        intro H locs ls pa hP hD hS hl
                        refine lv_isub hx hb dL_turn_342 ?_
                        subst hv_508
                        exact hj343 _ _ _ _ hP hD hS (lv_sub hl [0, 1, 2, 3, 4, 5, 6, 7, 8, 9, 10, 11, 12, 13] rfl)
                      refine lv_aload_n hx hb dL_turn_320 rfl (lv_at hl 11 rfl) ?_
                      refine lv_iload_n hx hb dL_turn_321 rfl (lv_at hl 10 rfl) ?_
                      refine lv_iconst (v := 4) hx hb dL_turn_322 (by decide) ?_
                      obtain ⟨r_517, hr_517⟩ : ∃ z, z = (F_TC_of r_1 (4 : Int32) (x.1.1 1) (x.1.2.1 0) (x.1.2.1 1) (x.1.2.1 2) (x.1.2.2 0) (x.1.2.2 1) (x.1.1 2) (x.1.2.2 2) (x.1.1 10) (x.1.2.2 3)) := ⟨_, rfl⟩
                      rw [bnd_e hr_517] at hv_516
                      refine b_alle hr_517 (W1 := fun pa => (xW cI cC cG ad pa x)) (va_runV (As := [.int r_1, .int 4]) (rest := [.int (r_496 + v_513)]) ⟨hx, hb, hml, hown, hts⟩ (cu_TC_of l dC dI cI cC cG cZ ad pa x r_1 (4 : Int32) hI.1.1 hI.1.2) (cwV 2 hts gL_turn_X6_of rfl rfl rfl (by decide +kernel) ⟨Nat.le_of_ble_eq_true rfl, Nat.le_of_ble_eq_true rfl⟩) (b_preV hP hK hD (ci := 6) (i0 := 0) (q0 := 0) rfl rfl rfl) rfl rfl hl.1 rfl (lv_room (Nat.le_of_ble_eq_true rfl)) dL_turn_323 ⟨Nat.zero_le _, Nat.zero_le _⟩) hD hS (fun H locs pa hP hD hS => ?_)
                      have hP : bP (dC, dI) vwCl (xW cI cC cG ad pa x) H := hP
                      have hD : bD A (xW cI cC cG ad pa x) := hD
                      refine lv_iconst (v := 1) hx hb dL_turn_326 (by decide) ?_
                      refine lv_iload hx hb dL_turn_327 (lv_at hl 9 rfl) ?_
                      refine lv_isub hx hb dL_turn_329 ?_
                      refine lv_ishr hx hb dL_turn_330 ?_
                      refine lv_iconst (v := 1) hx hb dL_turn_331 (by decide) ?_
                      refine lv_iand hx hb dL_turn_332 ?_
                      refine lv_iconst (v := 1) hx hb dL_turn_333 (by decide) ?_
                      refine lv_icmp_ne (tgt := 341) hx hb dL_turn_334 (by decide) (fun c_518 => ?_) (fun c_518 => ?_)
                      · rw [if_neg c_518] at hv_516
                        refine lv_iconst (v := 0) hx hb dL_turn_341 (by decide) ?_
                        subst hv_516
                        exact hj342 _ _ _ _ hP hD hS (lv_sub hl [0, 1, 2, 3, 4, 5, 6, 7, 8, 9, 10, 11, 12, 13] rfl)
                      · rw [if_pos c_518] at hv_516
                        refine lv_iconst (v := 3) hx hb dL_turn_337 (by decide) ?_
                        refine lv_goto (tgt := 342) hx hb dL_turn_338 (by decide) ?_
                        subst hv_516
                        exact hj342 _ _ _ _ hP hD hS (lv_sub hl [0, 1, 2, 3, 4, 5, 6, 7, 8, 9, 10, 11, 12, 13] rfl)
                    refine lv_aload_n hx hb dL_turn_299 rfl (lv_at hl 11 rfl) ?_
                    refine lv_iload_n hx hb dL_turn_300 rfl (lv_at hl 10 rfl) ?_
                    refine lv_iconst (v := 4) hx hb dL_turn_301 (by decide) ?_
                    obtain ⟨r_519, hr_519⟩ : ∃ z, z = (F_TC_of r_1 (4 : Int32) (x.1.1 1) (x.1.2.1 0) (x.1.2.1 1) (x.1.2.1 2) (x.1.2.2 0) (x.1.2.2 1) (x.1.1 2) (x.1.2.2 2) (x.1.1 10) (x.1.2.2 3)) := ⟨_, rfl⟩
                    rw [bnd_e hr_519] at hv_513
                    refine b_alle hr_519 (W1 := fun pa => (xW cI cC cG ad pa x)) (va_runV (As := [.int r_1, .int 4]) (rest := [.int r_496]) ⟨hx, hb, hml, hown, hts⟩ (cu_TC_of l dC dI cI cC cG cZ ad pa x r_1 (4 : Int32) hI.1.1 hI.1.2) (cwV 2 hts gL_turn_X6_of rfl rfl rfl (by decide +kernel) ⟨Nat.le_of_ble_eq_true rfl, Nat.le_of_ble_eq_true rfl⟩) (b_preV hP hK hD (ci := 6) (i0 := 0) (q0 := 0) rfl rfl rfl) rfl rfl hl.1 rfl (lv_room (Nat.le_of_ble_eq_true rfl)) dL_turn_302 ⟨Nat.zero_le _, Nat.zero_le _⟩) hD hS (fun H locs pa hP hD hS => ?_)
                    have hP : bP (dC, dI) vwCl (xW cI cC cG ad pa x) H := hP
                    have hD : bD A (xW cI cC cG ad pa x) := hD
                    refine lv_iload hx hb dL_turn_305 (lv_at hl 9 rfl) ?_
                    refine lv_ishr hx hb dL_turn_307 ?_
                    refine lv_iconst (v := 1) hx hb dL_turn_308 (by decide) ?_
                    refine lv_iand hx hb dL_turn_309 ?_
                    refine lv_iconst (v := 1) hx hb dL_turn_310 (by decide) ?_
                    refine lv_icmp_ne (tgt := 318) hx hb dL_turn_311 (by decide) (fun c_520 => ?_) (fun c_520 => ?_)
                    · rw [if_neg c_520] at hv_513
                      refine lv_iconst (v := 0) hx hb dL_turn_318 (by decide) ?_
                      subst hv_513
                      exact hj319 _ _ _ _ hP hD hS (lv_sub hl [0, 1, 2, 3, 4, 5, 6, 7, 8, 9, 10, 11, 12, 13] rfl)
                    · rw [if_pos c_520] at hv_513
                      refine lv_iconst (v := 1) hx hb dL_turn_314 (by decide) ?_
                      refine lv_goto (tgt := 319) hx hb dL_turn_315 (by decide) ?_
                      subst hv_513
                      exact hj319 _ _ _ _ hP hD hS (lv_sub hl [0, 1, 2, 3, 4, 5, 6, 7, 8, 9, 10, 11, 12, 13] rfl)
                  · rw [if_neg c_510] at hv_508
                    refine lv_iconst (v := 0) hx hb dL_turn_293 (by decide) ?_
                    refine lv_goto (tgt := 343) hx hb dL_turn_294 (by decide) ?_
                    subst hv_508
                    exact hj343 _ _ _ _ hP hD hS (lv_sub hl [0, 1, 2, 3, 4, 5, 6, 7, 8, 9, 10, 11, 12, 13] rfl)
                · rw [if_neg c_495] at hv_336
                  by_cases c_521 : r_364 = 6
                  · rw [if_pos c_521] at hv_336
                    refine lv_tableIn (off := 176) (tgt := 281) hx hb dL_turn_105 (by rw [c_521]; decide) (by rw [c_521]; decide) (by rw [c_521]; rfl) (by decide) ?_
                    refine lv_aload_n hx hb dL_turn_281 rfl (lv_at hl 11 rfl) ?_
                    refine lv_iload_n hx hb dL_turn_282 rfl (lv_at hl 10 rfl) ?_
                    obtain ⟨r_522, hr_522⟩ : ∃ z, z = (F_TC_ifSnipped r_1 (x.1.1 1) (x.1.2.1 0) (x.1.2.1 1) (x.1.2.1 2) (x.1.2.2 0)) := ⟨_, rfl⟩
                    rw [bnd_e hr_522] at hv_336
                    refine b_alle hr_522 (W1 := fun pa => (xW cI cC cG ad pa x)) (va_runV (As := [.int r_1]) (rest := []) ⟨hx, hb, hml, hown, hts⟩ (cu_TC_ifSnipped l dC dI cI cC cG cZ ad pa x r_1 ) (cwV 1 hts gL_turn_X6_ifSnipped rfl rfl rfl (by decide +kernel) ⟨Nat.le_of_ble_eq_true rfl, Nat.le_of_ble_eq_true rfl⟩) (b_preV hP hK hD (ci := 6) (i0 := 0) (q0 := 0) rfl rfl rfl) rfl rfl hl.1 rfl (lv_room (Nat.le_of_ble_eq_true rfl)) dL_turn_283 ⟨Nat.zero_le _, Nat.zero_le _⟩) hD hS (fun H locs pa hP hD hS => ?_)
                    have hP : bP (dC, dI) vwCl (xW cI cC cG ad pa x) H := hP
                    have hD : bD A (xW cI cC cG ad pa x) := hD
                    refine lv_istore (lv' := [(12, .int r_522), (13, .int 0), (11, .int 0), (10, .int v_14), (9, .int r_9), (8, .int v_8), (7, .int r_5), (6, .int r_4), (5, .int r_3), (4, .int r_2), (3, .int r_1), (0, .ref (ad 0 0)), (1, .int a), (2, .int b)]) hx hb dL_turn_286 hl (by decide) rfl (fun ls hl => ?_)
                    obtain ⟨v_534, hv_534⟩ : ∃ z : Int32, z = (if (0 : Int32) ≤ r_522 then (bnd ((bnd (F_TC_of r_1 (4 : Int32) (x.1.1 1) (x.1.2.1 0) (x.1.2.1 1) (x.1.2.1 2) (x.1.2.2 0) (x.1.2.2 1) (x.1.1 2) (x.1.2.2 2) (x.1.1 10) (x.1.2.2 3)) (fun r_524 => (if ((r_524 >>> (r_2 &&& 31)) &&& 1) = 1 then 1 else 0))) : Int32) (fun v_526 => (bnd ((bnd (F_TC_of r_1 (4 : Int32) (x.1.1 1) (x.1.2.1 0) (x.1.2.1 1) (x.1.2.1 2) (x.1.2.2 0) (x.1.2.2 1) (x.1.1 2) (x.1.2.2 2) (x.1.1 10) (x.1.2.2 3)) (fun r_527 => (if ((r_527 >>> (((1 : Int32) - r_2) &&& 31)) &&& 1) = 1 then 3 else 0))) : Int32) (fun v_529 => ((r_522 + v_526) - v_529))))) else 0) := ⟨_, rfl⟩
                    rw [bnd_e hv_534] at hv_336
                    have hj343 : ∀ (H : Heap) (locs : List Loc) (ls : Array Slot) (pa : Nat → Nat → Nat), bP (dC, dI) vwCl (xW cI cC cG ad pa x) H → bD A (xW cI cC cG ad pa x) → va_S A s.heap H locs → lv_has ls 16 [(12, .int r_522), (13, .int 0), (11, .int 0), (10, .int v_14), (9, .int r_9), (8, .int v_8), (7, .int r_5), (6, .int r_4), (5, .int r_3), (4, .int r_2), (3, .int r_1), (0, .ref (ad 0 0)), (1, .int a), (2, .int b)] → W p l e (headSpec wsL_turn ({ frames := 8, cells := 0, slots := 0, locals := 171 })).room s m ([.ref (ad 0 0), .int a, .int b] : List Value).toArray below meth c H locs 0 0 (MQ below (bQi (dC, dI) vwCl res.1 (fun pa => (xW cI cC cG ad pa res.2)) A) ([.ref (ad 0 0), .int a, .int b] : List Value).toArray s 0 0 A) (F0 m 343 ls [.int v_534]) := by
                      intro H locs ls pa hP hD hS hl
                      refine lv_istore (lv' := [(13, .int v_534), (12, .int r_522), (11, .int 0), (10, .int v_14), (9, .int r_9), (8, .int v_8), (7, .int r_5), (6, .int r_4), (5, .int r_3), (4, .int r_2), (3, .int r_1), (0, .ref (ad 0 0)), (1, .int a), (2, .int b)]) hx hb dL_turn_343 hl (by decide) rfl (fun ls hl => ?_)
                      refine lv_aload_n hx hb dL_turn_345 rfl (lv_at hl 11 rfl) ?_
                      refine lv_iload_n hx hb dL_turn_346 rfl (lv_at hl 10 rfl) ?_
                      obtain ⟨r_535, hr_535⟩ : ∃ z, z = (X_snip r_1 x) := ⟨_, rfl⟩
                      rw [bnd_e hr_535] at hv_336
                      refine b_alli (W1 := fun pa => (xW cI cC cG ad pa r_535.2)) (va_runV (As := [.int r_1]) (rest := []) ⟨hx, hb, hml, hown, hts⟩ (cu_TC_snip l dC dI cI cC cG cZ ad pa x r_1 hI.1.1 hI.1.2 hI.2.1 r_535 hr_535) (cwV 1 hts gL_turn_X6_snip rfl rfl rfl (by decide +kernel) ⟨Nat.le_of_ble_eq_true rfl, Nat.le_of_ble_eq_true rfl⟩) (b_preV hP hK hD (ci := 6) (i0 := 0) (q0 := 0) rfl rfl rfl) rfl rfl hl.1 rfl (lv_room (Nat.le_of_ble_eq_true rfl)) dL_turn_347 ⟨Nat.zero_le _, Nat.zero_le _⟩) hD hS (fun H locs pa hP hD hS => ?_)
                      have hIr_535 : IX r_535.2 := by rw [hr_535]; exact IX_turn hI
                      have hP : bP (dC, dI) vwCl (xW cI cC cG ad pa r_535.2) H := hP
                      have hD : bD A (xW cI cC cG ad pa r_535.2) := hD
                      refine lv_istore (lv' := [(11, .int r_535.1), (13, .int v_534), (12, .int r_522), (10, .int v_14), (9, .int r_9), (8, .int v_8), (7, .int r_5), (6, .int r_4), (5, .int r_3), (4, .int r_2), (3, .int r_1), (0, .ref (ad 0 0)), (1, .int a), (2, .int b)]) hx hb dL_turn_350 hl (by decide) rfl (fun ls hl => ?_)
                      refine lv_goto (tgt := 558) hx hb dL_turn_352 (by decide) ?_
                      subst hv_336
                      exact hj558 _ _ _ _ hIr_535 hP hD hS (lv_sub hl [1, 2, 0, 3, 4, 5, 6, 7, 8, 9, 10, 11, 12, 13] rfl)
                    refine lv_iload hx hb dL_turn_288 (lv_at hl 0 rfl) ?_
                    refine lv_if_ge (tgt := 297) hx hb dL_turn_290 (by decide) (fun c_536 => ?_) (fun c_536 => ?_)
                    · rw [if_pos c_536] at hv_534
                      refine lv_iload hx hb dL_turn_297 (lv_at hl 0 rfl) ?_
                      obtain ⟨v_539, hv_539⟩ : ∃ z : Int32, z = (bnd (F_TC_of r_1 (4 : Int32) (x.1.1 1) (x.1.2.1 0) (x.1.2.1 1) (x.1.2.1 2) (x.1.2.2 0) (x.1.2.2 1) (x.1.1 2) (x.1.2.2 2) (x.1.1 10) (x.1.2.2 3)) (fun r_537 => (if ((r_537 >>> (r_2 &&& 31)) &&& 1) = 1 then 1 else 0))) := ⟨_, rfl⟩
                      rw [bnd_e hv_539] at hv_534
                      have hj319 : ∀ (H : Heap) (locs : List Loc) (ls : Array Slot) (pa : Nat → Nat → Nat), bP (dC, dI) vwCl (xW cI cC cG ad pa x) H → bD A (xW cI cC cG ad pa x) → va_S A s.heap H locs → lv_has ls 16 [(12, .int r_522), (13, .int 0), (11, .int 0), (10, .int v_14), (9, .int r_9), (8, .int v_8), (7, .int r_5), (6, .int r_4), (5, .int r_3), (4, .int r_2), (3, .int r_1), (0, .ref (ad 0 0)), (1, .int a), (2, .int b)] → W p l e (headSpec wsL_turn ({ frames := 8, cells := 0, slots := 0, locals := 171 })).room s m ([.ref (ad 0 0), .int a, .int b] : List Value).toArray below meth c H locs 0 0 (MQ below (bQi (dC, dI) vwCl res.1 (fun pa => (xW cI cC cG ad pa res.2)) A) ([.ref (ad 0 0), .int a, .int b] : List Value).toArray s 0 0 A) (F0 m 319 ls [.int v_539, .int r_522]) := by
                        intro H locs ls pa hP hD hS hl
                        refine lv_iadd hx hb dL_turn_319 ?_
                        obtain ⟨v_542, hv_542⟩ : ∃ z : Int32, z = (bnd (F_TC_of r_1 (4 : Int32) (x.1.1 1) (x.1.2.1 0) (x.1.2.1 1) (x.1.2.1 2) (x.1.2.2 0) (x.1.2.2 1) (x.1.1 2) (x.1.2.2 2) (x.1.1 10) (x.1.2.2 3)) (fun r_540 => (if ((r_540 >>> (((1 : Int32) - r_2) &&& 31)) &&& 1) = 1 then 3 else 0))) := ⟨_, rfl⟩
                        rw [bnd_e hv_542] at hv_534
                        have hj342 : ∀ (H : Heap) (locs : List Loc) (ls : Array Slot) (pa : Nat → Nat → Nat), bP (dC, dI) vwCl (xW cI cC cG ad pa x) H → bD A (xW cI cC cG ad pa x) → va_S A s.heap H locs → lv_has ls 16 [(12, .int r_522), (13, .int 0), (11, .int 0), (10, .int v_14), (9, .int r_9), (8, .int v_8), (7, .int r_5), (6, .int r_4), (5, .int r_3), (4, .int r_2), (3, .int r_1), (0, .ref (ad 0 0)), (1, .int a), (2, .int b)] → W p l e (headSpec wsL_turn ({ frames := 8, cells := 0, slots := 0, locals := 171 })).room s m ([.ref (ad 0 0), .int a, .int b] : List Value).toArray below meth c H locs 0 0 (MQ below (bQi (dC, dI) vwCl res.1 (fun pa => (xW cI cC cG ad pa res.2)) A) ([.ref (ad 0 0), .int a, .int b] : List Value).toArray s 0 0 A) (F0 m 342 ls [.int v_542, .int (r_522 + v_539)]) := by
                          intro H locs ls pa hP hD hS hl
                          refine lv_isub hx hb dL_turn_342 ?_
                          subst hv_534
                          exact hj343 _ _ _ _ hP hD hS (lv_sub hl [0, 1, 2, 3, 4, 5, 6, 7, 8, 9, 10, 11, 12, 13] rfl)
                        refine lv_aload_n hx hb dL_turn_320 rfl (lv_at hl 11 rfl) ?_
                        refine lv_iload_n hx hb dL_turn_321 rfl (lv_at hl 10 rfl) ?_
                        refine lv_iconst (v := 4) hx hb dL_turn_322 (by decide) ?_
                        obtain ⟨r_543, hr_543⟩ : ∃ z, z = (F_TC_of r_1 (4 : Int32) (x.1.1 1) (x.1.2.1 0) (x.1.2.1 1) (x.1.2.1 2) (x.1.2.2 0) (x.1.2.2 1) (x.1.1 2) (x.1.2.2 2) (x.1.1 10) (x.1.2.2 3)) := ⟨_, rfl⟩
                        rw [bnd_e hr_543] at hv_542
                        refine b_alle hr_543 (W1 := fun pa => (xW cI cC cG ad pa x)) (va_runV (As := [.int r_1, .int 4]) (rest := [.int (r_522 + v_539)]) ⟨hx, hb, hml, hown, hts⟩ (cu_TC_of l dC dI cI cC cG cZ ad pa x r_1 (4 : Int32) hI.1.1 hI.1.2) (cwV 2 hts gL_turn_X6_of rfl rfl rfl (by decide +kernel) ⟨Nat.le_of_ble_eq_true rfl, Nat.le_of_ble_eq_true rfl⟩) (b_preV hP hK hD (ci := 6) (i0 := 0) (q0 := 0) rfl rfl rfl) rfl rfl hl.1 rfl (lv_room (Nat.le_of_ble_eq_true rfl)) dL_turn_323 ⟨Nat.zero_le _, Nat.zero_le _⟩) hD hS (fun H locs pa hP hD hS => ?_)
                        have hP : bP (dC, dI) vwCl (xW cI cC cG ad pa x) H := hP
                        have hD : bD A (xW cI cC cG ad pa x) := hD
                        refine lv_iconst (v := 1) hx hb dL_turn_326 (by decide) ?_
                        refine lv_iload hx hb dL_turn_327 (lv_at hl 9 rfl) ?_
                        refine lv_isub hx hb dL_turn_329 ?_
                        refine lv_ishr hx hb dL_turn_330 ?_
                        refine lv_iconst (v := 1) hx hb dL_turn_331 (by decide) ?_
                        refine lv_iand hx hb dL_turn_332 ?_
                        refine lv_iconst (v := 1) hx hb dL_turn_333 (by decide) ?_
                        refine lv_icmp_ne (tgt := 341) hx hb dL_turn_334 (by decide) (fun c_544 => ?_) (fun c_544 => ?_)
                        · rw [if_neg c_544] at hv_542
                          refine lv_iconst (v := 0) hx hb dL_turn_341 (by decide) ?_
                          subst hv_542
                          exact hj342 _ _ _ _ hP hD hS (lv_sub hl [0, 1, 2, 3, 4, 5, 6, 7, 8, 9, 10, 11, 12, 13] rfl)
                        · rw [if_pos c_544] at hv_542
                          refine lv_iconst (v := 3) hx hb dL_turn_337 (by decide) ?_
                          refine lv_goto (tgt := 342) hx hb dL_turn_338 (by decide) ?_
                          subst hv_542
                          exact hj342 _ _ _ _ hP hD hS (lv_sub hl [0, 1, 2, 3, 4, 5, 6, 7, 8, 9, 10, 11, 12, 13] rfl)
                      refine lv_aload_n hx hb dL_turn_299 rfl (lv_at hl 11 rfl) ?_
                      refine lv_iload_n hx hb dL_turn_300 rfl (lv_at hl 10 rfl) ?_
                      refine lv_iconst (v := 4) hx hb dL_turn_301 (by decide) ?_
                      obtain ⟨r_545, hr_545⟩ : ∃ z, z = (F_TC_of r_1 (4 : Int32) (x.1.1 1) (x.1.2.1 0) (x.1.2.1 1) (x.1.2.1 2) (x.1.2.2 0) (x.1.2.2 1) (x.1.1 2) (x.1.2.2 2) (x.1.1 10) (x.1.2.2 3)) := ⟨_, rfl⟩
                      rw [bnd_e hr_545] at hv_539
                      refine b_alle hr_545 (W1 := fun pa => (xW cI cC cG ad pa x)) (va_runV (As := [.int r_1, .int 4]) (rest := [.int r_522]) ⟨hx, hb, hml, hown, hts⟩ (cu_TC_of l dC dI cI cC cG cZ ad pa x r_1 (4 : Int32) hI.1.1 hI.1.2) (cwV 2 hts gL_turn_X6_of rfl rfl rfl (by decide +kernel) ⟨Nat.le_of_ble_eq_true rfl, Nat.le_of_ble_eq_true rfl⟩) (b_preV hP hK hD (ci := 6) (i0 := 0) (q0 := 0) rfl rfl rfl) rfl rfl hl.1 rfl (lv_room (Nat.le_of_ble_eq_true rfl)) dL_turn_302 ⟨Nat.zero_le _, Nat.zero_le _⟩) hD hS (fun H locs pa hP hD hS => ?_)
                      have hP : bP (dC, dI) vwCl (xW cI cC cG ad pa x) H := hP
                      have hD : bD A (xW cI cC cG ad pa x) := hD
                      refine lv_iload hx hb dL_turn_305 (lv_at hl 9 rfl) ?_
                      refine lv_ishr hx hb dL_turn_307 ?_
                      refine lv_iconst (v := 1) hx hb dL_turn_308 (by decide) ?_
                      refine lv_iand hx hb dL_turn_309 ?_
                      refine lv_iconst (v := 1) hx hb dL_turn_310 (by decide) ?_
                      refine lv_icmp_ne (tgt := 318) hx hb dL_turn_311 (by decide) (fun c_546 => ?_) (fun c_546 => ?_)
                      · rw [if_neg c_546] at hv_539
                        refine lv_iconst (v := 0) hx hb dL_turn_318 (by decide) ?_
                        subst hv_539
                        exact hj319 _ _ _ _ hP hD hS (lv_sub hl [0, 1, 2, 3, 4, 5, 6, 7, 8, 9, 10, 11, 12, 13] rfl)
                      · rw [if_pos c_546] at hv_539
                        refine lv_iconst (v := 1) hx hb dL_turn_314 (by decide) ?_
                        refine lv_goto (tgt := 319) hx hb dL_turn_315 (by decide) ?_
                        subst hv_539
                        exact hj319 _ _ _ _ hP hD hS (lv_sub hl [0, 1, 2, 3, 4, 5, 6, 7, 8, 9, 10, 11, 12, 13] rfl)
                    · rw [if_neg c_536] at hv_534
                      refine lv_iconst (v := 0) hx hb dL_turn_293 (by decide) ?_
                      refine lv_goto (tgt := 343) hx hb dL_turn_294 (by decide) ?_
                      subst hv_534
                      exact hj343 _ _ _ _ hP hD hS (lv_sub hl [0, 1, 2, 3, 4, 5, 6, 7, 8, 9, 10, 11, 12, 13] rfl)
                  · rw [if_neg c_521] at hv_336
                    by_cases c_547 : r_364 = 7
                    · rw [if_pos c_547] at hv_336
                      refine lv_tableIn (off := 176) (tgt := 281) hx hb dL_turn_105 (by rw [c_547]; decide) (by rw [c_547]; decide) (by rw [c_547]; rfl) (by decide) ?_
                      refine lv_aload_n hx hb dL_turn_281 rfl (lv_at hl 11 rfl) ?_
                      refine lv_iload_n hx hb dL_turn_282 rfl (lv_at hl 10 rfl) ?_
                      obtain ⟨r_548, hr_548⟩ : ∃ z, z = (F_TC_ifSnipped r_1 (x.1.1 1) (x.1.2.1 0) (x.1.2.1 1) (x.1.2.1 2) (x.1.2.2 0)) := ⟨_, rfl⟩
                      rw [bnd_e hr_548] at hv_336
                      refine b_alle hr_548 (W1 := fun pa => (xW cI cC cG ad pa x)) (va_runV (As := [.int r_1]) (rest := []) ⟨hx, hb, hml, hown, hts⟩ (cu_TC_ifSnipped l dC dI cI cC cG cZ ad pa x r_1 ) (cwV 1 hts gL_turn_X6_ifSnipped rfl rfl rfl (by decide +kernel) ⟨Nat.le_of_ble_eq_true rfl, Nat.le_of_ble_eq_true rfl⟩) (b_preV hP hK hD (ci := 6) (i0 := 0) (q0 := 0) rfl rfl rfl) rfl rfl hl.1 rfl (lv_room (Nat.le_of_ble_eq_true rfl)) dL_turn_283 ⟨Nat.zero_le _, Nat.zero_le _⟩) hD hS (fun H locs pa hP hD hS => ?_)
                      have hP : bP (dC, dI) vwCl (xW cI cC cG ad pa x) H := hP
                      have hD : bD A (xW cI cC cG ad pa x) := hD
                      refine lv_istore (lv' := [(12, .int r_548), (13, .int 0), (11, .int 0), (10, .int v_14), (9, .int r_9), (8, .int v_8), (7, .int r_5), (6, .int r_4), (5, .int r_3), (4, .int r_2), (3, .int r_1), (0, .ref (ad 0 0)), (1, .int a), (2, .int b)]) hx hb dL_turn_286 hl (by decide) rfl (fun ls hl => ?_)
                      obtain ⟨v_560, hv_560⟩ : ∃ z : Int32, z = (if (0 : Int32) ≤ r_548 then (bnd ((bnd (F_TC_of r_1 (4 : Int32) (x.1.1 1) (x.1.2.1 0) (x.1.2.1 1) (x.1.2.1 2) (x.1.2.2 0) (x.1.2.2 1) (x.1.1 2) (x.1.2.2 2) (x.1.1 10) (x.1.2.2 3)) (fun r_550 => (if ((r_550 >>> (r_2 &&& 31)) &&& 1) = 1 then 1 else 0))) : Int32) (fun v_552 => (bnd ((bnd (F_TC_of r_1 (4 : Int32) (x.1.1 1) (x.1.2.1 0) (x.1.2.1 1) (x.1.2.1 2) (x.1.2.2 0) (x.1.2.2 1) (x.1.1 2) (x.1.2.2 2) (x.1.1 10) (x.1.2.2 3)) (fun r_553 => (if ((r_553 >>> (((1 : Int32) - r_2) &&& 31)) &&& 1) = 1 then 3 else 0))) : Int32) (fun v_555 => ((r_548 + v_552) - v_555))))) else 0) := ⟨_, rfl⟩
                      rw [bnd_e hv_560] at hv_336
                      have hj343 : ∀ (H : Heap) (locs : List Loc) (ls : Array Slot) (pa : Nat → Nat → Nat), bP (dC, dI) vwCl (xW cI cC cG ad pa x) H → bD A (xW cI cC cG ad pa x) → va_S A s.heap H locs → lv_has ls 16 [(12, .int r_548), (13, .int 0), (11, .int 0), (10, .int v_14), (9, .int r_9), (8, .int v_8), (7, .int r_5), (6, .int r_4), (5, .int r_3), (4, .int r_2), (3, .int r_1), (0, .ref (ad 0 0)), (1, .int a), (2, .int b)] → W p l e (headSpec wsL_turn ({ frames := 8, cells := 0, slots := 0, locals := 171 })).room s m ([.ref (ad 0 0), .int a, .int b] : List Value).toArray below meth c H locs 0 0 (MQ below (bQi (dC, dI) vwCl res.1 (fun pa => (xW cI cC cG ad pa res.2)) A) ([.ref (ad 0 0), .int a, .int b] : List Value).toArray s 0 0 A) (F0 m 343 ls [.int v_560]) := by
                        intro H locs ls pa hP hD hS hl
                        refine lv_istore (lv' := [(13, .int v_560), (12, .int r_548), (11, .int 0), (10, .int v_14), (9, .int r_9), (8, .int v_8), (7, .int r_5), (6, .int r_4), (5, .int r_3), (4, .int r_2), (3, .int r_1), (0, .ref (ad 0 0)), (1, .int a), (2, .int b)]) hx hb dL_turn_343 hl (by decide) rfl (fun ls hl => ?_)
                        refine lv_aload_n hx hb dL_turn_345 rfl (lv_at hl 11 rfl) ?_
                        refine lv_iload_n hx hb dL_turn_346 rfl (lv_at hl 10 rfl) ?_
                        obtain ⟨r_561, hr_561⟩ : ∃ z, z = (X_snip r_1 x) := ⟨_, rfl⟩
                        rw [bnd_e hr_561] at hv_336
                        refine b_alli (W1 := fun pa => (xW cI cC cG ad pa r_561.2)) (va_runV (As := [.int r_1]) (rest := []) ⟨hx, hb, hml, hown, hts⟩ (cu_TC_snip l dC dI cI cC cG cZ ad pa x r_1 hI.1.1 hI.1.2 hI.2.1 r_561 hr_561) (cwV 1 hts gL_turn_X6_snip rfl rfl rfl (by decide +kernel) ⟨Nat.le_of_ble_eq_true rfl, Nat.le_of_ble_eq_true rfl⟩) (b_preV hP hK hD (ci := 6) (i0 := 0) (q0 := 0) rfl rfl rfl) rfl rfl hl.1 rfl (lv_room (Nat.le_of_ble_eq_true rfl)) dL_turn_347 ⟨Nat.zero_le _, Nat.zero_le _⟩) hD hS (fun H locs pa hP hD hS => ?_)
                        have hIr_561 : IX r_561.2 := by rw [hr_561]; exact IX_turn hI
                        have hP : bP (dC, dI) vwCl (xW cI cC cG ad pa r_561.2) H := hP
                        have hD : bD A (xW cI cC cG ad pa r_561.2) := hD
                        refine lv_istore (lv' := [(11, .int r_561.1), (13, .int v_560), (12, .int r_548), (10, .int v_14), (9, .int r_9), (8, .int v_8), (7, .int r_5), (6, .int r_4), (5, .int r_3), (4, .int r_2), (3, .int r_1), (0, .ref (ad 0 0)), (1, .int a), (2, .int b)]) hx hb dL_turn_350 hl (by decide) rfl (fun ls hl => ?_)
                        refine lv_goto (tgt := 558) hx hb dL_turn_352 (by decide) ?_
                        subst hv_336
                        exact hj558 _ _ _ _ hIr_561 hP hD hS (lv_sub hl [1, 2, 0, 3, 4, 5, 6, 7, 8, 9, 10, 11, 12, 13] rfl)
                      refine lv_iload hx hb dL_turn_288 (lv_at hl 0 rfl) ?_
                      refine lv_if_ge (tgt := 297) hx hb dL_turn_290 (by decide) (fun c_562 => ?_) (fun c_562 => ?_)
                      · rw [if_pos c_562] at hv_560
                        refine lv_iload hx hb dL_turn_297 (lv_at hl 0 rfl) ?_
                        obtain ⟨v_565, hv_565⟩ : ∃ z : Int32, z = (bnd (F_TC_of r_1 (4 : Int32) (x.1.1 1) (x.1.2.1 0) (x.1.2.1 1) (x.1.2.1 2) (x.1.2.2 0) (x.1.2.2 1) (x.1.1 2) (x.1.2.2 2) (x.1.1 10) (x.1.2.2 3)) (fun r_563 => (if ((r_563 >>> (r_2 &&& 31)) &&& 1) = 1 then 1 else 0))) := ⟨_, rfl⟩
                        rw [bnd_e hv_565] at hv_560
                        have hj319 : ∀ (H : Heap) (locs : List Loc) (ls : Array Slot) (pa : Nat → Nat → Nat), bP (dC, dI) vwCl (xW cI cC cG ad pa x) H → bD A (xW cI cC cG ad pa x) → va_S A s.heap H locs → lv_has ls 16 [(12, .int r_548), (13, .int 0), (11, .int 0), (10, .int v_14), (9, .int r_9), (8, .int v_8), (7, .int r_5), (6, .int r_4), (5, .int r_3), (4, .int r_2), (3, .int r_1), (0, .ref (ad 0 0)), (1, .int a), (2, .int b)] → W p l e (headSpec wsL_turn ({ frames := 8, cells := 0, slots := 0, locals := 171 })).room s m ([.ref (ad 0 0), .int a, .int b] : List Value).toArray below meth c H locs 0 0 (MQ below (bQi (dC, dI) vwCl res.1 (fun pa => (xW cI cC cG ad pa res.2)) A) ([.ref (ad 0 0), .int a, .int b] : List Value).toArray s 0 0 A) (F0 m 319 ls [.int v_565, .int r_548]) := by
                          intro H locs ls pa hP hD hS hl
                          refine lv_iadd hx hb dL_turn_319 ?_
                          obtain ⟨v_568, hv_568⟩ : ∃ z : Int32, z = (bnd (F_TC_of r_1 (4 : Int32) (x.1.1 1) (x.1.2.1 0) (x.1.2.1 1) (x.1.2.1 2) (x.1.2.2 0) (x.1.2.2 1) (x.1.1 2) (x.1.2.2 2) (x.1.1 10) (x.1.2.2 3)) (fun r_566 => (if ((r_566 >>> (((1 : Int32) - r_2) &&& 31)) &&& 1) = 1 then 3 else 0))) := ⟨_, rfl⟩
                          rw [bnd_e hv_568] at hv_560
                          have hj342 : ∀ (H : Heap) (locs : List Loc) (ls : Array Slot) (pa : Nat → Nat → Nat), bP (dC, dI) vwCl (xW cI cC cG ad pa x) H → bD A (xW cI cC cG ad pa x) → va_S A s.heap H locs → lv_has ls 16 [(12, .int r_548), (13, .int 0), (11, .int 0), (10, .int v_14), (9, .int r_9), (8, .int v_8), (7, .int r_5), (6, .int r_4), (5, .int r_3), (4, .int r_2), (3, .int r_1), (0, .ref (ad 0 0)), (1, .int a), (2, .int b)] → W p l e (headSpec wsL_turn ({ frames := 8, cells := 0, slots := 0, locals := 171 })).room s m ([.ref (ad 0 0), .int a, .int b] : List Value).toArray below meth c H locs 0 0 (MQ below (bQi (dC, dI) vwCl res.1 (fun pa => (xW cI cC cG ad pa res.2)) A) ([.ref (ad 0 0), .int a, .int b] : List Value).toArray s 0 0 A) (F0 m 342 ls [.int v_568, .int (r_548 + v_565)]) := by
                            intro H locs ls pa hP hD hS hl
                            refine lv_isub hx hb dL_turn_342 ?_
                            subst hv_560
                            exact hj343 _ _ _ _ hP hD hS (lv_sub hl [0, 1, 2, 3, 4, 5, 6, 7, 8, 9, 10, 11, 12, 13] rfl)
                          refine lv_aload_n hx hb dL_turn_320 rfl (lv_at hl 11 rfl) ?_
                          refine lv_iload_n hx hb dL_turn_321 rfl (lv_at hl 10 rfl) ?_
                          refine lv_iconst (v := 4) hx hb dL_turn_322 (by decide) ?_
                          obtain ⟨r_569, hr_569⟩ : ∃ z, z = (F_TC_of r_1 (4 : Int32) (x.1.1 1) (x.1.2.1 0) (x.1.2.1 1) (x.1.2.1 2) (x.1.2.2 0) (x.1.2.2 1) (x.1.1 2) (x.1.2.2 2) (x.1.1 10) (x.1.2.2 3)) := ⟨_, rfl⟩
                          rw [bnd_e hr_569] at hv_568
                          refine b_alle hr_569 (W1 := fun pa => (xW cI cC cG ad pa x)) (va_runV (As := [.int r_1, .int 4]) (rest := [.int (r_548 + v_565)]) ⟨hx, hb, hml, hown, hts⟩ (cu_TC_of l dC dI cI cC cG cZ ad pa x r_1 (4 : Int32) hI.1.1 hI.1.2) (cwV 2 hts gL_turn_X6_of rfl rfl rfl (by decide +kernel) ⟨Nat.le_of_ble_eq_true rfl, Nat.le_of_ble_eq_true rfl⟩) (b_preV hP hK hD (ci := 6) (i0 := 0) (q0 := 0) rfl rfl rfl) rfl rfl hl.1 rfl (lv_room (Nat.le_of_ble_eq_true rfl)) dL_turn_323 ⟨Nat.zero_le _, Nat.zero_le _⟩) hD hS (fun H locs pa hP hD hS => ?_)
                          have hP : bP (dC, dI) vwCl (xW cI cC cG ad pa x) H := hP
                          have hD : bD A (xW cI cC cG ad pa x) := hD
                          refine lv_iconst (v := 1) hx hb dL_turn_326 (by decide) ?_
                          refine lv_iload hx hb dL_turn_327 (lv_at hl 9 rfl) ?_
                          refine lv_isub hx hb dL_turn_329 ?_
                          refine lv_ishr hx hb dL_turn_330 ?_
                          refine lv_iconst (v := 1) hx hb dL_turn_331 (by decide) ?_
                          refine lv_iand hx hb dL_turn_332 ?_
                          refine lv_iconst (v := 1) hx hb dL_turn_333 (by decide) ?_
                          refine lv_icmp_ne (tgt := 341) hx hb dL_turn_334 (by decide) (fun c_570 => ?_) (fun c_570 => ?_)
                          · rw [if_neg c_570] at hv_568
                            refine lv_iconst (v := 0) hx hb dL_turn_341 (by decide) ?_
                            subst hv_568
                            exact hj342 _ _ _ _ hP hD hS (lv_sub hl [0, 1, 2, 3, 4, 5, 6, 7, 8, 9, 10, 11, 12, 13] rfl)
                          · rw [if_pos c_570] at hv_568
                            refine lv_iconst (v := 3) hx hb dL_turn_337 (by decide) ?_
                            refine lv_goto (tgt := 342) hx hb dL_turn_338 (by decide) ?_
                            subst hv_568
                            exact hj342 _ _ _ _ hP hD hS (lv_sub hl [0, 1, 2, 3, 4, 5, 6, 7, 8, 9, 10, 11, 12, 13] rfl)
                        refine lv_aload_n hx hb dL_turn_299 rfl (lv_at hl 11 rfl) ?_
                        refine lv_iload_n hx hb dL_turn_300 rfl (lv_at hl 10 rfl) ?_
                        refine lv_iconst (v := 4) hx hb dL_turn_301 (by decide) ?_
                        obtain ⟨r_571, hr_571⟩ : ∃ z, z = (F_TC_of r_1 (4 : Int32) (x.1.1 1) (x.1.2.1 0) (x.1.2.1 1) (x.1.2.1 2) (x.1.2.2 0) (x.1.2.2 1) (x.1.1 2) (x.1.2.2 2) (x.1.1 10) (x.1.2.2 3)) := ⟨_, rfl⟩
                        rw [bnd_e hr_571] at hv_565
                        refine b_alle hr_571 (W1 := fun pa => (xW cI cC cG ad pa x)) (va_runV (As := [.int r_1, .int 4]) (rest := [.int r_548]) ⟨hx, hb, hml, hown, hts⟩ (cu_TC_of l dC dI cI cC cG cZ ad pa x r_1 (4 : Int32) hI.1.1 hI.1.2) (cwV 2 hts gL_turn_X6_of rfl rfl rfl (by decide +kernel) ⟨Nat.le_of_ble_eq_true rfl, Nat.le_of_ble_eq_true rfl⟩) (b_preV hP hK hD (ci := 6) (i0 := 0) (q0 := 0) rfl rfl rfl) rfl rfl hl.1 rfl (lv_room (Nat.le_of_ble_eq_true rfl)) dL_turn_302 ⟨Nat.zero_le _, Nat.zero_le _⟩) hD hS (fun H locs pa hP hD hS => ?_)
                        have hP : bP (dC, dI) vwCl (xW cI cC cG ad pa x) H := hP
                        have hD : bD A (xW cI cC cG ad pa x) := hD
                        refine lv_iload hx hb dL_turn_305 (lv_at hl 9 rfl) ?_
                        refine lv_ishr hx hb dL_turn_307 ?_
                        refine lv_iconst (v := 1) hx hb dL_turn_308 (by decide) ?_
                        refine lv_iand hx hb dL_turn_309 ?_
                        refine lv_iconst (v := 1) hx hb dL_turn_310 (by decide) ?_
                        refine lv_icmp_ne (tgt := 318) hx hb dL_turn_311 (by decide) (fun c_572 => ?_) (fun c_572 => ?_)
                        · rw [if_neg c_572] at hv_565
                          refine lv_iconst (v := 0) hx hb dL_turn_318 (by decide) ?_
                          subst hv_565
                          exact hj319 _ _ _ _ hP hD hS (lv_sub hl [0, 1, 2, 3, 4, 5, 6, 7, 8, 9, 10, 11, 12, 13] rfl)
                        · rw [if_pos c_572] at hv_565
                          refine lv_iconst (v := 1) hx hb dL_turn_314 (by decide) ?_
                          refine lv_goto (tgt := 319) hx hb dL_turn_315 (by decide) ?_
                          subst hv_565
                          exact hj319 _ _ _ _ hP hD hS (lv_sub hl [0, 1, 2, 3, 4, 5, 6, 7, 8, 9, 10, 11, 12, 13] rfl)
                      · rw [if_neg c_562] at hv_560
                        refine lv_iconst (v := 0) hx hb dL_turn_293 (by decide) ?_
                        refine lv_goto (tgt := 343) hx hb dL_turn_294 (by decide) ?_
                        subst hv_560
                        exact hj343 _ _ _ _ hP hD hS (lv_sub hl [0, 1, 2, 3, 4, 5, 6, 7, 8, 9, 10, 11, 12, 13] rfl)
                    · rw [if_neg c_547] at hv_336
                      by_cases c_573 : r_364 = 8
                      · rw [if_pos c_573] at hv_336
                        refine lv_tableIn (off := 176) (tgt := 281) hx hb dL_turn_105 (by rw [c_573]; decide) (by rw [c_573]; decide) (by rw [c_573]; rfl) (by decide) ?_
                        refine lv_aload_n hx hb dL_turn_281 rfl (lv_at hl 11 rfl) ?_
                        refine lv_iload_n hx hb dL_turn_282 rfl (lv_at hl 10 rfl) ?_
                        obtain ⟨r_574, hr_574⟩ : ∃ z, z = (F_TC_ifSnipped r_1 (x.1.1 1) (x.1.2.1 0) (x.1.2.1 1) (x.1.2.1 2) (x.1.2.2 0)) := ⟨_, rfl⟩
                        rw [bnd_e hr_574] at hv_336
                        refine b_alle hr_574 (W1 := fun pa => (xW cI cC cG ad pa x)) (va_runV (As := [.int r_1]) (rest := []) ⟨hx, hb, hml, hown, hts⟩ (cu_TC_ifSnipped l dC dI cI cC cG cZ ad pa x r_1 ) (cwV 1 hts gL_turn_X6_ifSnipped rfl rfl rfl (by decide +kernel) ⟨Nat.le_of_ble_eq_true rfl, Nat.le_of_ble_eq_true rfl⟩) (b_preV hP hK hD (ci := 6) (i0 := 0) (q0 := 0) rfl rfl rfl) rfl rfl hl.1 rfl (lv_room (Nat.le_of_ble_eq_true rfl)) dL_turn_283 ⟨Nat.zero_le _, Nat.zero_le _⟩) hD hS (fun H locs pa hP hD hS => ?_)
                        have hP : bP (dC, dI) vwCl (xW cI cC cG ad pa x) H := hP
                        have hD : bD A (xW cI cC cG ad pa x) := hD
                        refine lv_istore (lv' := [(12, .int r_574), (13, .int 0), (11, .int 0), (10, .int v_14), (9, .int r_9), (8, .int v_8), (7, .int r_5), (6, .int r_4), (5, .int r_3), (4, .int r_2), (3, .int r_1), (0, .ref (ad 0 0)), (1, .int a), (2, .int b)]) hx hb dL_turn_286 hl (by decide) rfl (fun ls hl => ?_)
                        obtain ⟨v_586, hv_586⟩ : ∃ z : Int32, z = (if (0 : Int32) ≤ r_574 then (bnd ((bnd (F_TC_of r_1 (4 : Int32) (x.1.1 1) (x.1.2.1 0) (x.1.2.1 1) (x.1.2.1 2) (x.1.2.2 0) (x.1.2.2 1) (x.1.1 2) (x.1.2.2 2) (x.1.1 10) (x.1.2.2 3)) (fun r_576 => (if ((r_576 >>> (r_2 &&& 31)) &&& 1) = 1 then 1 else 0))) : Int32) (fun v_578 => (bnd ((bnd (F_TC_of r_1 (4 : Int32) (x.1.1 1) (x.1.2.1 0) (x.1.2.1 1) (x.1.2.1 2) (x.1.2.2 0) (x.1.2.2 1) (x.1.1 2) (x.1.2.2 2) (x.1.1 10) (x.1.2.2 3)) (fun r_579 => (if ((r_579 >>> (((1 : Int32) - r_2) &&& 31)) &&& 1) = 1 then 3 else 0))) : Int32) (fun v_581 => ((r_574 + v_578) - v_581))))) else 0) := ⟨_, rfl⟩
                        rw [bnd_e hv_586] at hv_336
                        have hj343 : ∀ (H : Heap) (locs : List Loc) (ls : Array Slot) (pa : Nat → Nat → Nat), bP (dC, dI) vwCl (xW cI cC cG ad pa x) H → bD A (xW cI cC cG ad pa x) → va_S A s.heap H locs → lv_has ls 16 [(12, .int r_574), (13, .int 0), (11, .int 0), (10, .int v_14), (9, .int r_9), (8, .int v_8), (7, .int r_5), (6, .int r_4), (5, .int r_3), (4, .int r_2), (3, .int r_1), (0, .ref (ad 0 0)), (1, .int a), (2, .int b)] → W p l e (headSpec wsL_turn ({ frames := 8, cells := 0, slots := 0, locals := 171 })).room s m ([.ref (ad 0 0), .int a, .int b] : List Value).toArray below meth c H locs 0 0 (MQ below (bQi (dC, dI) vwCl res.1 (fun pa => (xW cI cC cG ad pa res.2)) A) ([.ref (ad 0 0), .int a, .int b] : List Value).toArray s 0 0 A) (F0 m 343 ls [.int v_586]) := by
                          intro H locs ls pa hP hD hS hl
                          refine lv_istore (lv' := [(13, .int v_586), (12, .int r_574), (11, .int 0), (10, .int v_14), (9, .int r_9), (8, .int v_8), (7, .int r_5), (6, .int r_4), (5, .int r_3), (4, .int r_2), (3, .int r_1), (0, .ref (ad 0 0)), (1, .int a), (2, .int b)]) hx hb dL_turn_343 hl (by decide) rfl (fun ls hl => ?_)
                          refine lv_aload_n hx hb dL_turn_345 rfl (lv_at hl 11 rfl) ?_
                          refine lv_iload_n hx hb dL_turn_346 rfl (lv_at hl 10 rfl) ?_
                          obtain ⟨r_587, hr_587⟩ : ∃ z, z = (X_snip r_1 x) := ⟨_, rfl⟩
                          rw [bnd_e hr_587] at hv_336
                          refine b_alli (W1 := fun pa => (xW cI cC cG ad pa r_587.2)) (va_runV (As := [.int r_1]) (rest := []) ⟨hx, hb, hml, hown, hts⟩ (cu_TC_snip l dC dI cI cC cG cZ ad pa x r_1 hI.1.1 hI.1.2 hI.2.1 r_587 hr_587) (cwV 1 hts gL_turn_X6_snip rfl rfl rfl (by decide +kernel) ⟨Nat.le_of_ble_eq_true rfl, Nat.le_of_ble_eq_true rfl⟩) (b_preV hP hK hD (ci := 6) (i0 := 0) (q0 := 0) rfl rfl rfl) rfl rfl hl.1 rfl (lv_room (Nat.le_of_ble_eq_true rfl)) dL_turn_347 ⟨Nat.zero_le _, Nat.zero_le _⟩) hD hS (fun H locs pa hP hD hS => ?_)
                          have hIr_587 : IX r_587.2 := by rw [hr_587]; exact IX_turn hI
                          have hP : bP (dC, dI) vwCl (xW cI cC cG ad pa r_587.2) H := hP
                          have hD : bD A (xW cI cC cG ad pa r_587.2) := hD
                          refine lv_istore (lv' := [(11, .int r_587.1), (13, .int v_586), (12, .int r_574), (10, .int v_14), (9, .int r_9), (8, .int v_8), (7, .int r_5), (6, .int r_4), (5, .int r_3), (4, .int r_2), (3, .int r_1), (0, .ref (ad 0 0)), (1, .int a), (2, .int b)]) hx hb dL_turn_350 hl (by decide) rfl (fun ls hl => ?_)
                          refine lv_goto (tgt := 558) hx hb dL_turn_352 (by decide) ?_
                          subst hv_336
                          exact hj558 _ _ _ _ hIr_587 hP hD hS (lv_sub hl [1, 2, 0, 3, 4, 5, 6, 7, 8, 9, 10, 11, 12, 13] rfl)
                        refine lv_iload hx hb dL_turn_288 (lv_at hl 0 rfl) ?_
                        refine lv_if_ge (tgt := 297) hx hb dL_turn_290 (by decide) (fun c_588 => ?_) (fun c_588 => ?_)
                        · rw [if_pos c_588] at hv_586
                          refine lv_iload hx hb dL_turn_297 (lv_at hl 0 rfl) ?_
                          obtain ⟨v_591, hv_591⟩ : ∃ z : Int32, z = (bnd (F_TC_of r_1 (4 : Int32) (x.1.1 1) (x.1.2.1 0) (x.1.2.1 1) (x.1.2.1 2) (x.1.2.2 0) (x.1.2.2 1) (x.1.1 2) (x.1.2.2 2) (x.1.1 10) (x.1.2.2 3)) (fun r_589 => (if ((r_589 >>> (r_2 &&& 31)) &&& 1) = 1 then 1 else 0))) := ⟨_, rfl⟩
                          rw [bnd_e hv_591] at hv_586
                          have hj319 : ∀ (H : Heap) (locs : List Loc) (ls : Array Slot) (pa : Nat → Nat → Nat), bP (dC, dI) vwCl (xW cI cC cG ad pa x) H → bD A (xW cI cC cG ad pa x) → va_S A s.heap H locs → lv_has ls 16 [(12, .int r_574), (13, .int 0), (11, .int 0), (10, .int v_14), (9, .int r_9), (8, .int v_8), (7, .int r_5), (6, .int r_4), (5, .int r_3), (4, .int r_2), (3, .int r_1), (0, .ref (ad 0 0)), (1, .int a), (2, .int b)] → W p l e (headSpec wsL_turn ({ frames := 8, cells := 0, slots := 0, locals := 171 })).room s m ([.ref (ad 0 0), .int a, .int b] : List Value).toArray below meth c H locs 0 0 (MQ below (bQi (dC, dI) vwCl res.1 (fun pa => (xW cI cC cG ad pa res.2)) A) ([.ref (ad 0 0), .int a, .int b] : List Value).toArray s 0 0 A) (F0 m 319 ls [.int v_591, .int r_574]) := by
                            intro H locs ls pa hP hD hS hl
                            refine lv_iadd hx hb dL_turn_319 ?_
                            obtain ⟨v_594, hv_594⟩ : ∃ z : Int32, z = (bnd (F_TC_of r_1 (4 : Int32) (x.1.1 1) (x.1.2.1 0) (x.1.2.1 1) (x.1.2.1 2) (x.1.2.2 0) (x.1.2.2 1) (x.1.1 2) (x.1.2.2 2) (x.1.1 10) (x.1.2.2 3)) (fun r_592 => (if ((r_592 >>> (((1 : Int32) - r_2) &&& 31)) &&& 1) = 1 then 3 else 0))) := ⟨_, rfl⟩
                            rw [bnd_e hv_594] at hv_586
                            have hj342 : ∀ (H : Heap) (locs : List Loc) (ls : Array Slot) (pa : Nat → Nat → Nat), bP (dC, dI) vwCl (xW cI cC cG ad pa x) H → bD A (xW cI cC cG ad pa x) → va_S A s.heap H locs → lv_has ls 16 [(12, .int r_574), (13, .int 0), (11, .int 0), (10, .int v_14), (9, .int r_9), (8, .int v_8), (7, .int r_5), (6, .int r_4), (5, .int r_3), (4, .int r_2), (3, .int r_1), (0, .ref (ad 0 0)), (1, .int a), (2, .int b)] → W p l e (headSpec wsL_turn ({ frames := 8, cells := 0, slots := 0, locals := 171 })).room s m ([.ref (ad 0 0), .int a, .int b] : List Value).toArray below meth c H locs 0 0 (MQ below (bQi (dC, dI) vwCl res.1 (fun pa => (xW cI cC cG ad pa res.2)) A) ([.ref (ad 0 0), .int a, .int b] : List Value).toArray s 0 0 A) (F0 m 342 ls [.int v_594, .int (r_574 + v_591)]) := by
                              intro H locs ls pa hP hD hS hl
                              refine lv_isub hx hb dL_turn_342 ?_
                              subst hv_586
                              exact hj343 _ _ _ _ hP hD hS (lv_sub hl [0, 1, 2, 3, 4, 5, 6, 7, 8, 9, 10, 11, 12, 13] rfl)
                            refine lv_aload_n hx hb dL_turn_320 rfl (lv_at hl 11 rfl) ?_
                            refine lv_iload_n hx hb dL_turn_321 rfl (lv_at hl 10 rfl) ?_
                            refine lv_iconst (v := 4) hx hb dL_turn_322 (by decide) ?_
                            obtain ⟨r_595, hr_595⟩ : ∃ z, z = (F_TC_of r_1 (4 : Int32) (x.1.1 1) (x.1.2.1 0) (x.1.2.1 1) (x.1.2.1 2) (x.1.2.2 0) (x.1.2.2 1) (x.1.1 2) (x.1.2.2 2) (x.1.1 10) (x.1.2.2 3)) := ⟨_, rfl⟩
                            rw [bnd_e hr_595] at hv_594
                            refine b_alle hr_595 (W1 := fun pa => (xW cI cC cG ad pa x)) (va_runV (As := [.int r_1, .int 4]) (rest := [.int (r_574 + v_591)]) ⟨hx, hb, hml, hown, hts⟩ (cu_TC_of l dC dI cI cC cG cZ ad pa x r_1 (4 : Int32) hI.1.1 hI.1.2) (cwV 2 hts gL_turn_X6_of rfl rfl rfl (by decide +kernel) ⟨Nat.le_of_ble_eq_true rfl, Nat.le_of_ble_eq_true rfl⟩) (b_preV hP hK hD (ci := 6) (i0 := 0) (q0 := 0) rfl rfl rfl) rfl rfl hl.1 rfl (lv_room (Nat.le_of_ble_eq_true rfl)) dL_turn_323 ⟨Nat.zero_le _, Nat.zero_le _⟩) hD hS (fun H locs pa hP hD hS => ?_)
                            have hP : bP (dC, dI) vwCl (xW cI cC cG ad pa x) H := hP
                            have hD : bD A (xW cI cC cG ad pa x) := hD
                            refine lv_iconst (v := 1) hx hb dL_turn_326 (by decide) ?_
                            refine lv_iload hx hb dL_turn_327 (lv_at hl 9 rfl) ?_
                            refine lv_isub hx hb dL_turn_329 ?_
                            refine lv_ishr hx hb dL_turn_330 ?_
                            refine lv_iconst (v := 1) hx hb dL_turn_331 (by decide) ?_
                            refine lv_iand hx hb dL_turn_332 ?_
                            refine lv_iconst (v := 1) hx hb dL_turn_333 (by decide) ?_
                            refine lv_icmp_ne (tgt := 341) hx hb dL_turn_334 (by decide) (fun c_596 => ?_) (fun c_596 => ?_)
                            · rw [if_neg c_596] at hv_594
                              refine lv_iconst (v := 0) hx hb dL_turn_341 (by decide) ?_
                              subst hv_594
                              exact hj342 _ _ _ _ hP hD hS (lv_sub hl [0, 1, 2, 3, 4, 5, 6, 7, 8, 9, 10, 11, 12, 13] rfl)
                            · rw [if_pos c_596] at hv_594
                              refine lv_iconst (v := 3) hx hb dL_turn_337 (by decide) ?_
                              refine lv_goto (tgt := 342) hx hb dL_turn_338 (by decide) ?_
                              subst hv_594
                              exact hj342 _ _ _ _ hP hD hS (lv_sub hl [0, 1, 2, 3, 4, 5, 6, 7, 8, 9, 10, 11, 12, 13] rfl)
                          refine lv_aload_n hx hb dL_turn_299 rfl (lv_at hl 11 rfl) ?_
                          refine lv_iload_n hx hb dL_turn_300 rfl (lv_at hl 10 rfl) ?_
                          refine lv_iconst (v := 4) hx hb dL_turn_301 (by decide) ?_
                          obtain ⟨r_597, hr_597⟩ : ∃ z, z = (F_TC_of r_1 (4 : Int32) (x.1.1 1) (x.1.2.1 0) (x.1.2.1 1) (x.1.2.1 2) (x.1.2.2 0) (x.1.2.2 1) (x.1.1 2) (x.1.2.2 2) (x.1.1 10) (x.1.2.2 3)) := ⟨_, rfl⟩
                          rw [bnd_e hr_597] at hv_591
                          refine b_alle hr_597 (W1 := fun pa => (xW cI cC cG ad pa x)) (va_runV (As := [.int r_1, .int 4]) (rest := [.int r_574]) ⟨hx, hb, hml, hown, hts⟩ (cu_TC_of l dC dI cI cC cG cZ ad pa x r_1 (4 : Int32) hI.1.1 hI.1.2) (cwV 2 hts gL_turn_X6_of rfl rfl rfl (by decide +kernel) ⟨Nat.le_of_ble_eq_true rfl, Nat.le_of_ble_eq_true rfl⟩) (b_preV hP hK hD (ci := 6) (i0 := 0) (q0 := 0) rfl rfl rfl) rfl rfl hl.1 rfl (lv_room (Nat.le_of_ble_eq_true rfl)) dL_turn_302 ⟨Nat.zero_le _, Nat.zero_le _⟩) hD hS (fun H locs pa hP hD hS => ?_)
                          have hP : bP (dC, dI) vwCl (xW cI cC cG ad pa x) H := hP
                          have hD : bD A (xW cI cC cG ad pa x) := hD
                          refine lv_iload hx hb dL_turn_305 (lv_at hl 9 rfl) ?_
                          refine lv_ishr hx hb dL_turn_307 ?_
                          refine lv_iconst (v := 1) hx hb dL_turn_308 (by decide) ?_
                          refine lv_iand hx hb dL_turn_309 ?_
                          refine lv_iconst (v := 1) hx hb dL_turn_310 (by decide) ?_
                          refine lv_icmp_ne (tgt := 318) hx hb dL_turn_311 (by decide) (fun c_598 => ?_) (fun c_598 => ?_)
                          · rw [if_neg c_598] at hv_591
                            refine lv_iconst (v := 0) hx hb dL_turn_318 (by decide) ?_
                            subst hv_591
                            exact hj319 _ _ _ _ hP hD hS (lv_sub hl [0, 1, 2, 3, 4, 5, 6, 7, 8, 9, 10, 11, 12, 13] rfl)
                          · rw [if_pos c_598] at hv_591
                            refine lv_iconst (v := 1) hx hb dL_turn_314 (by decide) ?_
                            refine lv_goto (tgt := 319) hx hb dL_turn_315 (by decide) ?_
                            subst hv_591
                            exact hj319 _ _ _ _ hP hD hS (lv_sub hl [0, 1, 2, 3, 4, 5, 6, 7, 8, 9, 10, 11, 12, 13] rfl)
                        · rw [if_neg c_588] at hv_586
                          refine lv_iconst (v := 0) hx hb dL_turn_293 (by decide) ?_
                          refine lv_goto (tgt := 343) hx hb dL_turn_294 (by decide) ?_
                          subst hv_586
                          exact hj343 _ _ _ _ hP hD hS (lv_sub hl [0, 1, 2, 3, 4, 5, 6, 7, 8, 9, 10, 11, 12, 13] rfl)
                      · rw [if_neg c_573] at hv_336
                        by_cases c_599 : r_364 = 9
                        · rw [if_pos c_599] at hv_336
                          refine lv_tableIn (off := 250) (tgt := 355) hx hb dL_turn_105 (by rw [c_599]; decide) (by rw [c_599]; decide) (by rw [c_599]; rfl) (by decide) ?_
                          refine lv_aload_n hx hb dL_turn_355 rfl (lv_at hl 11 rfl) ?_
                          refine lv_iload hx hb dL_turn_356 (lv_at hl 9 rfl) ?_
                          refine lv_iconst (v := 1) hx hb dL_turn_358 (by decide) ?_
                          obtain ⟨r_600, hr_600⟩ : ∃ z, z = (F_TC_player r_2 (1 : Int32) (x.1.1 2) (x.1.1 3) (x.1.1 4) (x.1.1 5) (x.1.1 6) (x.1.1 7) (x.1.1 8) (x.1.1 9) (x.1.1 10) (x.1.1 11) (x.1.1 12) (x.1.1 13) (x.1.1 14) (x.1.1 15) (x.1.1 16) (x.1.1 17)) := ⟨_, rfl⟩
                          rw [bnd_e hr_600] at hv_336
                          refine b_alle hr_600 (W1 := fun pa => (xW cI cC cG ad pa x)) (va_runV (As := [.int r_2, .int 1]) (rest := []) ⟨hx, hb, hml, hown, hts⟩ (cu_TC_player l dC dI cI cC cG cZ ad pa x r_2 (1 : Int32) ) (cwV 2 hts gL_turn_X6_player rfl rfl rfl (by decide +kernel) ⟨Nat.le_of_ble_eq_true rfl, Nat.le_of_ble_eq_true rfl⟩) (b_preV hP hK hD (ci := 6) (i0 := 0) (q0 := 0) rfl rfl rfl) rfl rfl hl.1 rfl (lv_room (Nat.le_of_ble_eq_true rfl)) dL_turn_359 ⟨Nat.zero_le _, Nat.zero_le _⟩) hD hS (fun H locs pa hP hD hS => ?_)
                          have hP : bP (dC, dI) vwCl (xW cI cC cG ad pa x) H := hP
                          have hD : bD A (xW cI cC cG ad pa x) := hD
                          refine lv_istore (lv' := [(15, .int r_600), (13, .int 0), (12, .int 0), (11, .int 0), (10, .int v_14), (9, .int r_9), (8, .int v_8), (7, .int r_5), (6, .int r_4), (5, .int r_3), (4, .int r_2), (3, .int r_1), (0, .ref (ad 0 0)), (1, .int a), (2, .int b)]) hx hb dL_turn_362 hl (by decide) rfl (fun ls hl => ?_)
                          obtain ⟨v_605, hv_605⟩ : ∃ z : Int32, z = (if r_1 = 82 then (-1) else (if v_14 = 0 then (-5) else (if r_9 = 1 then (if r_600 = 0 then (-5) else (r_600 - 1)) else (-5)))) := ⟨_, rfl⟩
                          rw [bnd_e hv_605] at hv_336
                          have hj399 : ∀ (H : Heap) (locs : List Loc) (ls : Array Slot) (pa : Nat → Nat → Nat), bP (dC, dI) vwCl (xW cI cC cG ad pa x) H → bD A (xW cI cC cG ad pa x) → va_S A s.heap H locs → lv_has ls 16 [(15, .int r_600), (13, .int 0), (12, .int 0), (11, .int 0), (10, .int v_14), (9, .int r_9), (8, .int v_8), (7, .int r_5), (6, .int r_4), (5, .int r_3), (4, .int r_2), (3, .int r_1), (0, .ref (ad 0 0)), (1, .int a), (2, .int b)] → W p l e (headSpec wsL_turn ({ frames := 8, cells := 0, slots := 0, locals := 171 })).room s m ([.ref (ad 0 0), .int a, .int b] : List Value).toArray below meth c H locs 0 0 (MQ below (bQi (dC, dI) vwCl res.1 (fun pa => (xW cI cC cG ad pa res.2)) A) ([.ref (ad 0 0), .int a, .int b] : List Value).toArray s 0 0 A) (F0 m 399 ls [.int v_605]) := by
                            intro H locs ls pa hP hD hS hl
                            refine lv_istore (lv' := [(12, .int v_605), (15, .int r_600), (13, .int 0), (11, .int 0), (10, .int v_14), (9, .int r_9), (8, .int v_8), (7, .int r_5), (6, .int r_4), (5, .int r_3), (4, .int r_2), (3, .int r_1), (0, .ref (ad 0 0)), (1, .int a), (2, .int b)]) hx hb dL_turn_399 hl (by decide) rfl (fun ls hl => ?_)
                            refine lv_aload_n hx hb dL_turn_401 rfl (lv_at hl 12 rfl) ?_
                            refine lv_iload_n hx hb dL_turn_402 rfl (lv_at hl 11 rfl) ?_
                            obtain ⟨r_606, hr_606⟩ : ∃ z, z = (X_sew r_1 x) := ⟨_, rfl⟩
                            rw [bnd_e hr_606] at hv_336
                            refine b_alli (W1 := fun pa => (xW cI cC cG ad pa r_606.2)) (va_runV (As := [.int r_1]) (rest := []) ⟨hx, hb, hml, hown, hts⟩ (cu_TC_sew l dC dI cI cC cG cZ ad pa x r_1 hI.1.1 hI.1.2 hI.2.1 r_606 hr_606) (cwV 1 hts gL_turn_X6_sew rfl rfl rfl (by decide +kernel) ⟨Nat.le_of_ble_eq_true rfl, Nat.le_of_ble_eq_true rfl⟩) (b_preV hP hK hD (ci := 6) (i0 := 0) (q0 := 0) rfl rfl rfl) rfl rfl hl.1 rfl (lv_room (Nat.le_of_ble_eq_true rfl)) dL_turn_403 ⟨Nat.zero_le _, Nat.zero_le _⟩) hD hS (fun H locs pa hP hD hS => ?_)
                            have hIr_606 : IX r_606.2 := by rw [hr_606]; exact IX_turn hI
                            have hP : bP (dC, dI) vwCl (xW cI cC cG ad pa r_606.2) H := hP
                            have hD : bD A (xW cI cC cG ad pa r_606.2) := hD
                            refine lv_istore (lv' := [(11, .int r_606.1), (12, .int v_605), (15, .int r_600), (13, .int 0), (10, .int v_14), (9, .int r_9), (8, .int v_8), (7, .int r_5), (6, .int r_4), (5, .int r_3), (4, .int r_2), (3, .int r_1), (0, .ref (ad 0 0)), (1, .int a), (2, .int b)]) hx hb dL_turn_406 hl (by decide) rfl (fun ls hl => ?_)
                            refine lv_goto (tgt := 558) hx hb dL_turn_408 (by decide) ?_
                            subst hv_336
                            exact hj558 _ _ _ _ hIr_606 hP hD hS (lv_sub hl [3, 1, 0, 4, 5, 6, 7, 8, 9, 10, 11, 12, 13, 14] rfl)
                          refine lv_iload_n hx hb dL_turn_364 rfl (lv_at hl 11 rfl) ?_
                          refine lv_bipush (v := 82) hx hb dL_turn_365 (by decide) ?_
                          refine lv_icmp_ne (tgt := 374) hx hb dL_turn_367 (by decide) (fun c_607 => ?_) (fun c_607 => ?_)
                          · rw [if_neg c_607] at hv_605
                            refine lv_iload hx hb dL_turn_374 (lv_at hl 4 rfl) ?_
                            refine lv_if_eq (tgt := 390) hx hb dL_turn_376 (by decide) (fun c_608 => ?_) (fun c_608 => ?_)
                            · rw [if_pos c_608] at hv_605
                              refine lv_bipush (v := (-5)) hx hb dL_turn_390 (by decide) ?_
                              refine lv_goto (tgt := 399) hx hb dL_turn_392 (by decide) ?_
                              subst hv_605
                              exact hj399 _ _ _ _ hP hD hS (lv_sub hl [0, 1, 2, 3, 4, 5, 6, 7, 8, 9, 10, 11, 12, 13, 14] rfl)
                            · rw [if_neg c_608] at hv_605
                              refine lv_iload hx hb dL_turn_379 (lv_at hl 5 rfl) ?_
                              refine lv_iconst (v := 1) hx hb dL_turn_381 (by decide) ?_
                              refine lv_icmp_ne (tgt := 390) hx hb dL_turn_382 (by decide) (fun c_609 => ?_) (fun c_609 => ?_)
                              · rw [if_neg c_609] at hv_605
                                refine lv_bipush (v := (-5)) hx hb dL_turn_390 (by decide) ?_
                                refine lv_goto (tgt := 399) hx hb dL_turn_392 (by decide) ?_
                                subst hv_605
                                exact hj399 _ _ _ _ hP hD hS (lv_sub hl [0, 1, 2, 3, 4, 5, 6, 7, 8, 9, 10, 11, 12, 13, 14] rfl)
                              · rw [if_pos c_609] at hv_605
                                refine lv_iload hx hb dL_turn_385 (lv_at hl 0 rfl) ?_
                                refine lv_if_ne (tgt := 395) hx hb dL_turn_387 (by decide) (fun c_610 => ?_) (fun c_610 => ?_)
                                · rw [if_neg c_610] at hv_605
                                  refine lv_iload hx hb dL_turn_395 (lv_at hl 0 rfl) ?_
                                  refine lv_iconst (v := 1) hx hb dL_turn_397 (by decide) ?_
                                  refine lv_isub hx hb dL_turn_398 ?_
                                  subst hv_605
                                  exact hj399 _ _ _ _ hP hD hS (lv_sub hl [0, 1, 2, 3, 4, 5, 6, 7, 8, 9, 10, 11, 12, 13, 14] rfl)
                                · rw [if_pos c_610] at hv_605
                                  refine lv_bipush (v := (-5)) hx hb dL_turn_390 (by decide) ?_
                                  refine lv_goto (tgt := 399) hx hb dL_turn_392 (by decide) ?_
                                  subst hv_605
                                  exact hj399 _ _ _ _ hP hD hS (lv_sub hl [0, 1, 2, 3, 4, 5, 6, 7, 8, 9, 10, 11, 12, 13, 14] rfl)
                          · rw [if_pos c_607] at hv_605
                            refine lv_iconst (v := (-1)) hx hb dL_turn_370 (by decide) ?_
                            refine lv_goto (tgt := 399) hx hb dL_turn_371 (by decide) ?_
                            subst hv_605
                            exact hj399 _ _ _ _ hP hD hS (lv_sub hl [0, 1, 2, 3, 4, 5, 6, 7, 8, 9, 10, 11, 12, 13, 14] rfl)
                        · rw [if_neg c_599] at hv_336
                          by_cases c_611 : r_364 = 10
                          · rw [if_pos c_611] at hv_336
                            refine lv_tableIn (off := 250) (tgt := 355) hx hb dL_turn_105 (by rw [c_611]; decide) (by rw [c_611]; decide) (by rw [c_611]; rfl) (by decide) ?_
                            refine lv_aload_n hx hb dL_turn_355 rfl (lv_at hl 11 rfl) ?_
                            refine lv_iload hx hb dL_turn_356 (lv_at hl 9 rfl) ?_
                            refine lv_iconst (v := 1) hx hb dL_turn_358 (by decide) ?_
                            obtain ⟨r_612, hr_612⟩ : ∃ z, z = (F_TC_player r_2 (1 : Int32) (x.1.1 2) (x.1.1 3) (x.1.1 4) (x.1.1 5) (x.1.1 6) (x.1.1 7) (x.1.1 8) (x.1.1 9) (x.1.1 10) (x.1.1 11) (x.1.1 12) (x.1.1 13) (x.1.1 14) (x.1.1 15) (x.1.1 16) (x.1.1 17)) := ⟨_, rfl⟩
                            rw [bnd_e hr_612] at hv_336
                            refine b_alle hr_612 (W1 := fun pa => (xW cI cC cG ad pa x)) (va_runV (As := [.int r_2, .int 1]) (rest := []) ⟨hx, hb, hml, hown, hts⟩ (cu_TC_player l dC dI cI cC cG cZ ad pa x r_2 (1 : Int32) ) (cwV 2 hts gL_turn_X6_player rfl rfl rfl (by decide +kernel) ⟨Nat.le_of_ble_eq_true rfl, Nat.le_of_ble_eq_true rfl⟩) (b_preV hP hK hD (ci := 6) (i0 := 0) (q0 := 0) rfl rfl rfl) rfl rfl hl.1 rfl (lv_room (Nat.le_of_ble_eq_true rfl)) dL_turn_359 ⟨Nat.zero_le _, Nat.zero_le _⟩) hD hS (fun H locs pa hP hD hS => ?_)
                            have hP : bP (dC, dI) vwCl (xW cI cC cG ad pa x) H := hP
                            have hD : bD A (xW cI cC cG ad pa x) := hD
                            refine lv_istore (lv' := [(15, .int r_612), (13, .int 0), (12, .int 0), (11, .int 0), (10, .int v_14), (9, .int r_9), (8, .int v_8), (7, .int r_5), (6, .int r_4), (5, .int r_3), (4, .int r_2), (3, .int r_1), (0, .ref (ad 0 0)), (1, .int a), (2, .int b)]) hx hb dL_turn_362 hl (by decide) rfl (fun ls hl => ?_)
                            obtain ⟨v_617, hv_617⟩ : ∃ z : Int32, z = (if r_1 = 82 then (-1) else (if v_14 = 0 then (-5) else (if r_9 = 1 then (if r_612 = 0 then (-5) else (r_612 - 1)) else (-5)))) := ⟨_, rfl⟩
                            rw [bnd_e hv_617] at hv_336
                            have hj399 : ∀ (H : Heap) (locs : List Loc) (ls : Array Slot) (pa : Nat → Nat → Nat), bP (dC, dI) vwCl (xW cI cC cG ad pa x) H → bD A (xW cI cC cG ad pa x) → va_S A s.heap H locs → lv_has ls 16 [(15, .int r_612), (13, .int 0), (12, .int 0), (11, .int 0), (10, .int v_14), (9, .int r_9), (8, .int v_8), (7, .int r_5), (6, .int r_4), (5, .int r_3), (4, .int r_2), (3, .int r_1), (0, .ref (ad 0 0)), (1, .int a), (2, .int b)] → W p l e (headSpec wsL_turn ({ frames := 8, cells := 0, slots := 0, locals := 171 })).room s m ([.ref (ad 0 0), .int a, .int b] : List Value).toArray below meth c H locs 0 0 (MQ below (bQi (dC, dI) vwCl res.1 (fun pa => (xW cI cC cG ad pa res.2)) A) ([.ref (ad 0 0), .int a, .int b] : List Value).toArray s 0 0 A) (F0 m 399 ls [.int v_617]) := by
                              intro H locs ls pa hP hD hS hl
                              refine lv_istore (lv' := [(12, .int v_617), (15, .int r_612), (13, .int 0), (11, .int 0), (10, .int v_14), (9, .int r_9), (8, .int v_8), (7, .int r_5), (6, .int r_4), (5, .int r_3), (4, .int r_2), (3, .int r_1), (0, .ref (ad 0 0)), (1, .int a), (2, .int b)]) hx hb dL_turn_399 hl (by decide) rfl (fun ls hl => ?_)
                              refine lv_aload_n hx hb dL_turn_401 rfl (lv_at hl 12 rfl) ?_
                              refine lv_iload_n hx hb dL_turn_402 rfl (lv_at hl 11 rfl) ?_
                              obtain ⟨r_618, hr_618⟩ : ∃ z, z = (X_sew r_1 x) := ⟨_, rfl⟩
                              rw [bnd_e hr_618] at hv_336
                              refine b_alli (W1 := fun pa => (xW cI cC cG ad pa r_618.2)) (va_runV (As := [.int r_1]) (rest := []) ⟨hx, hb, hml, hown, hts⟩ (cu_TC_sew l dC dI cI cC cG cZ ad pa x r_1 hI.1.1 hI.1.2 hI.2.1 r_618 hr_618) (cwV 1 hts gL_turn_X6_sew rfl rfl rfl (by decide +kernel) ⟨Nat.le_of_ble_eq_true rfl, Nat.le_of_ble_eq_true rfl⟩) (b_preV hP hK hD (ci := 6) (i0 := 0) (q0 := 0) rfl rfl rfl) rfl rfl hl.1 rfl (lv_room (Nat.le_of_ble_eq_true rfl)) dL_turn_403 ⟨Nat.zero_le _, Nat.zero_le _⟩) hD hS (fun H locs pa hP hD hS => ?_)
                              have hIr_618 : IX r_618.2 := by rw [hr_618]; exact IX_turn hI
                              have hP : bP (dC, dI) vwCl (xW cI cC cG ad pa r_618.2) H := hP
                              have hD : bD A (xW cI cC cG ad pa r_618.2) := hD
                              refine lv_istore (lv' := [(11, .int r_618.1), (12, .int v_617), (15, .int r_612), (13, .int 0), (10, .int v_14), (9, .int r_9), (8, .int v_8), (7, .int r_5), (6, .int r_4), (5, .int r_3), (4, .int r_2), (3, .int r_1), (0, .ref (ad 0 0)), (1, .int a), (2, .int b)]) hx hb dL_turn_406 hl (by decide) rfl (fun ls hl => ?_)
                              refine lv_goto (tgt := 558) hx hb dL_turn_408 (by decide) ?_
                              subst hv_336
                              exact hj558 _ _ _ _ hIr_618 hP hD hS (lv_sub hl [3, 1, 0, 4, 5, 6, 7, 8, 9, 10, 11, 12, 13, 14] rfl)
                            refine lv_iload_n hx hb dL_turn_364 rfl (lv_at hl 11 rfl) ?_
                            refine lv_bipush (v := 82) hx hb dL_turn_365 (by decide) ?_
                            refine lv_icmp_ne (tgt := 374) hx hb dL_turn_367 (by decide) (fun c_619 => ?_) (fun c_619 => ?_)
                            · rw [if_neg c_619] at hv_617
                              refine lv_iload hx hb dL_turn_374 (lv_at hl 4 rfl) ?_
                              refine lv_if_eq (tgt := 390) hx hb dL_turn_376 (by decide) (fun c_620 => ?_) (fun c_620 => ?_)
                              · rw [if_pos c_620] at hv_617
                                refine lv_bipush (v := (-5)) hx hb dL_turn_390 (by decide) ?_
                                refine lv_goto (tgt := 399) hx hb dL_turn_392 (by decide) ?_
                                subst hv_617
                                exact hj399 _ _ _ _ hP hD hS (lv_sub hl [0, 1, 2, 3, 4, 5, 6, 7, 8, 9, 10, 11, 12, 13, 14] rfl)
                              · rw [if_neg c_620] at hv_617
                                refine lv_iload hx hb dL_turn_379 (lv_at hl 5 rfl) ?_
                                refine lv_iconst (v := 1) hx hb dL_turn_381 (by decide) ?_
                                refine lv_icmp_ne (tgt := 390) hx hb dL_turn_382 (by decide) (fun c_621 => ?_) (fun c_621 => ?_)
                                · rw [if_neg c_621] at hv_617
                                  refine lv_bipush (v := (-5)) hx hb dL_turn_390 (by decide) ?_
                                  refine lv_goto (tgt := 399) hx hb dL_turn_392 (by decide) ?_
                                  subst hv_617
                                  exact hj399 _ _ _ _ hP hD hS (lv_sub hl [0, 1, 2, 3, 4, 5, 6, 7, 8, 9, 10, 11, 12, 13, 14] rfl)
                                · rw [if_pos c_621] at hv_617
                                  refine lv_iload hx hb dL_turn_385 (lv_at hl 0 rfl) ?_
                                  refine lv_if_ne (tgt := 395) hx hb dL_turn_387 (by decide) (fun c_622 => ?_) (fun c_622 => ?_)
                                  · rw [if_neg c_622] at hv_617
                                    refine lv_iload hx hb dL_turn_395 (lv_at hl 0 rfl) ?_
                                    refine lv_iconst (v := 1) hx hb dL_turn_397 (by decide) ?_
                                    refine lv_isub hx hb dL_turn_398 ?_
                                    subst hv_617
                                    exact hj399 _ _ _ _ hP hD hS (lv_sub hl [0, 1, 2, 3, 4, 5, 6, 7, 8, 9, 10, 11, 12, 13, 14] rfl)
                                  · rw [if_pos c_622] at hv_617
                                    refine lv_bipush (v := (-5)) hx hb dL_turn_390 (by decide) ?_
                                    refine lv_goto (tgt := 399) hx hb dL_turn_392 (by decide) ?_
                                    subst hv_617
                                    exact hj399 _ _ _ _ hP hD hS (lv_sub hl [0, 1, 2, 3, 4, 5, 6, 7, 8, 9, 10, 11, 12, 13, 14] rfl)
                            · rw [if_pos c_619] at hv_617
                              refine lv_iconst (v := (-1)) hx hb dL_turn_370 (by decide) ?_
                              refine lv_goto (tgt := 399) hx hb dL_turn_371 (by decide) ?_
                              subst hv_617
                              exact hj399 _ _ _ _ hP hD hS (lv_sub hl [0, 1, 2, 3, 4, 5, 6, 7, 8, 9, 10, 11, 12, 13, 14] rfl)
                          · rw [if_neg c_611] at hv_336
                            by_cases c_623 : r_364 = 11
                            · rw [if_pos c_623] at hv_336
                              refine lv_tableIn (off := 306) (tgt := 411) hx hb dL_turn_105 (by rw [c_623]; decide) (by rw [c_623]; decide) (by rw [c_623]; rfl) (by decide) ?_
                              obtain ⟨v_628, hv_628⟩ : ∃ z : Int32, z = (if r_1 = 82 then (-1) else (if v_14 = 0 then (-5) else (if r_9 = 1 then (bnd (F_TC_count (8 : Int32) (x.1.1 0) (x.1.1 1) (x.1.2.1 0) (x.1.2.1 1) (x.1.2.1 2) (x.1.2.2 0) (x.1.1 3) (x.1.1 11) x.2.2.2.2.2.1 (nI x.2.1)) (fun r_627 => (r_627 + 1))) else (-5)))) := ⟨_, rfl⟩
                              rw [bnd_e hv_628] at hv_336
                              have hj445 : ∀ (H : Heap) (locs : List Loc) (ls : Array Slot) (pa : Nat → Nat → Nat), bP (dC, dI) vwCl (xW cI cC cG ad pa x) H → bD A (xW cI cC cG ad pa x) → va_S A s.heap H locs → lv_has ls 16 [(13, .int 0), (12, .int 0), (11, .int 0), (10, .int v_14), (9, .int r_9), (8, .int v_8), (7, .int r_5), (6, .int r_4), (5, .int r_3), (4, .int r_2), (3, .int r_1), (0, .ref (ad 0 0)), (1, .int a), (2, .int b)] → W p l e (headSpec wsL_turn ({ frames := 8, cells := 0, slots := 0, locals := 171 })).room s m ([.ref (ad 0 0), .int a, .int b] : List Value).toArray below meth c H locs 0 0 (MQ below (bQi (dC, dI) vwCl res.1 (fun pa => (xW cI cC cG ad pa res.2)) A) ([.ref (ad 0 0), .int a, .int b] : List Value).toArray s 0 0 A) (F0 m 445 ls [.int v_628]) := by
                                intro H locs ls pa hP hD hS hl
                                refine lv_istore (lv' := [(12, .int v_628), (13, .int 0), (11, .int 0), (10, .int v_14), (9, .int r_9), (8, .int v_8), (7, .int r_5), (6, .int r_4), (5, .int r_3), (4, .int r_2), (3, .int r_1), (0, .ref (ad 0 0)), (1, .int a), (2, .int b)]) hx hb dL_turn_445 hl (by decide) rfl (fun ls hl => ?_)
                                refine lv_aload_n hx hb dL_turn_447 rfl (lv_at hl 11 rfl) ?_
                                refine lv_iload_n hx hb dL_turn_448 rfl (lv_at hl 10 rfl) ?_
                                obtain ⟨r_629, hr_629⟩ : ∃ z, z = (X_bluff r_1 x) := ⟨_, rfl⟩
                                rw [bnd_e hr_629] at hv_336
                                refine b_alli (W1 := fun pa => (xW cI cC cG ad pa r_629.2)) (va_runV (As := [.int r_1]) (rest := []) ⟨hx, hb, hml, hown, hts⟩ (cu_TC_bluff l dC dI cI cC cG cZ ad pa x r_1 hI.1.1 hI.1.2 hI.2.1 r_629 hr_629) (cwV 1 hts gL_turn_X6_bluff rfl rfl rfl (by decide +kernel) ⟨Nat.le_of_ble_eq_true rfl, Nat.le_of_ble_eq_true rfl⟩) (b_preV hP hK hD (ci := 6) (i0 := 0) (q0 := 0) rfl rfl rfl) rfl rfl hl.1 rfl (lv_room (Nat.le_of_ble_eq_true rfl)) dL_turn_449 ⟨Nat.zero_le _, Nat.zero_le _⟩) hD hS (fun H locs pa hP hD hS => ?_)
                                have hIr_629 : IX r_629.2 := by rw [hr_629]; exact IX_turn hI
                                have hP : bP (dC, dI) vwCl (xW cI cC cG ad pa r_629.2) H := hP
                                have hD : bD A (xW cI cC cG ad pa r_629.2) := hD
                                refine lv_istore (lv' := [(11, .int r_629.1), (12, .int v_628), (13, .int 0), (10, .int v_14), (9, .int r_9), (8, .int v_8), (7, .int r_5), (6, .int r_4), (5, .int r_3), (4, .int r_2), (3, .int r_1), (0, .ref (ad 0 0)), (1, .int a), (2, .int b)]) hx hb dL_turn_452 hl (by decide) rfl (fun ls hl => ?_)
                                refine lv_goto (tgt := 558) hx hb dL_turn_454 (by decide) ?_
                                subst hv_336
                                exact hj558 _ _ _ _ hIr_629 hP hD hS (lv_sub hl [2, 1, 0, 3, 4, 5, 6, 7, 8, 9, 10, 11, 12, 13] rfl)
                              refine lv_iload_n hx hb dL_turn_411 rfl (lv_at hl 10 rfl) ?_
                              refine lv_bipush (v := 82) hx hb dL_turn_412 (by decide) ?_
                              refine lv_icmp_ne (tgt := 421) hx hb dL_turn_414 (by decide) (fun c_630 => ?_) (fun c_630 => ?_)
                              · rw [if_neg c_630] at hv_628
                                refine lv_iload hx hb dL_turn_421 (lv_at hl 3 rfl) ?_
                                refine lv_if_eq (tgt := 432) hx hb dL_turn_423 (by decide) (fun c_631 => ?_) (fun c_631 => ?_)
                                · rw [if_pos c_631] at hv_628
                                  refine lv_bipush (v := (-5)) hx hb dL_turn_432 (by decide) ?_
                                  refine lv_goto (tgt := 445) hx hb dL_turn_434 (by decide) ?_
                                  subst hv_628
                                  exact hj445 _ _ _ _ hP hD hS (lv_sub hl [0, 1, 2, 3, 4, 5, 6, 7, 8, 9, 10, 11, 12, 13] rfl)
                                · rw [if_neg c_631] at hv_628
                                  refine lv_iload hx hb dL_turn_426 (lv_at hl 4 rfl) ?_
                                  refine lv_iconst (v := 1) hx hb dL_turn_428 (by decide) ?_
                                  refine lv_icmp_eq (tgt := 437) hx hb dL_turn_429 (by decide) (fun c_632 => ?_) (fun c_632 => ?_)
                                  · rw [if_pos c_632] at hv_628
                                    refine lv_aload_n hx hb dL_turn_437 rfl (lv_at hl 11 rfl) ?_
                                    refine lv_bipush (v := 8) hx hb dL_turn_438 (by decide) ?_
                                    obtain ⟨r_633, hr_633⟩ : ∃ z, z = (F_TC_count (8 : Int32) (x.1.1 0) (x.1.1 1) (x.1.2.1 0) (x.1.2.1 1) (x.1.2.1 2) (x.1.2.2 0) (x.1.1 3) (x.1.1 11) x.2.2.2.2.2.1 (nI x.2.1)) := ⟨_, rfl⟩
                                    rw [bnd_e hr_633] at hv_628
                                    refine b_alle hr_633 (W1 := fun pa => (xW cI cC cG ad pa x)) (va_runV (As := [.int 8]) (rest := []) ⟨hx, hb, hml, hown, hts⟩ (cu_TC_count l dC dI cI cC cG cZ ad pa x (8 : Int32) ) (cwV 1 hts gL_turn_X6_count rfl rfl rfl (by decide +kernel) ⟨Nat.le_of_ble_eq_true rfl, Nat.le_of_ble_eq_true rfl⟩) (b_preV hP hK hD (ci := 6) (i0 := 0) (q0 := 0) rfl rfl rfl) rfl rfl hl.1 rfl (lv_room (Nat.le_of_ble_eq_true rfl)) dL_turn_440 ⟨Nat.zero_le _, Nat.zero_le _⟩) hD hS (fun H locs pa hP hD hS => ?_)
                                    have hP : bP (dC, dI) vwCl (xW cI cC cG ad pa x) H := hP
                                    have hD : bD A (xW cI cC cG ad pa x) := hD
                                    refine lv_iconst (v := 1) hx hb dL_turn_443 (by decide) ?_
                                    refine lv_iadd hx hb dL_turn_444 ?_
                                    subst hv_628
                                    exact hj445 _ _ _ _ hP hD hS (lv_sub hl [0, 1, 2, 3, 4, 5, 6, 7, 8, 9, 10, 11, 12, 13] rfl)
                                  · rw [if_neg c_632] at hv_628
                                    refine lv_bipush (v := (-5)) hx hb dL_turn_432 (by decide) ?_
                                    refine lv_goto (tgt := 445) hx hb dL_turn_434 (by decide) ?_
                                    subst hv_628
                                    exact hj445 _ _ _ _ hP hD hS (lv_sub hl [0, 1, 2, 3, 4, 5, 6, 7, 8, 9, 10, 11, 12, 13] rfl)
                              · rw [if_pos c_630] at hv_628
                                refine lv_iconst (v := (-1)) hx hb dL_turn_417 (by decide) ?_
                                refine lv_goto (tgt := 445) hx hb dL_turn_418 (by decide) ?_
                                subst hv_628
                                exact hj445 _ _ _ _ hP hD hS (lv_sub hl [0, 1, 2, 3, 4, 5, 6, 7, 8, 9, 10, 11, 12, 13] rfl)
                            · rw [if_neg c_623] at hv_336
                              by_cases c_634 : r_364 = 12
                              · rw [if_pos c_634] at hv_336
                                refine lv_tableIn (off := 306) (tgt := 411) hx hb dL_turn_105 (by rw [c_634]; decide) (by rw [c_634]; decide) (by rw [c_634]; rfl) (by decide) ?_
                                obtain ⟨v_639, hv_639⟩ : ∃ z : Int32, z = (if r_1 = 82 then (-1) else (if v_14 = 0 then (-5) else (if r_9 = 1 then (bnd (F_TC_count (8 : Int32) (x.1.1 0) (x.1.1 1) (x.1.2.1 0) (x.1.2.1 1) (x.1.2.1 2) (x.1.2.2 0) (x.1.1 3) (x.1.1 11) x.2.2.2.2.2.1 (nI x.2.1)) (fun r_638 => (r_638 + 1))) else (-5)))) := ⟨_, rfl⟩
                                rw [bnd_e hv_639] at hv_336
                                have hj445 : ∀ (H : Heap) (locs : List Loc) (ls : Array Slot) (pa : Nat → Nat → Nat), bP (dC, dI) vwCl (xW cI cC cG ad pa x) H → bD A (xW cI cC cG ad pa x) → va_S A s.heap H locs → lv_has ls 16 [(13, .int 0), (12, .int 0), (11, .int 0), (10, .int v_14), (9, .int r_9), (8, .int v_8), (7, .int r_5), (6, .int r_4), (5, .int r_3), (4, .int r_2), (3, .int r_1), (0, .ref (ad 0 0)), (1, .int a), (2, .int b)] → W p l e (headSpec wsL_turn ({ frames := 8, cells := 0, slots := 0, locals := 171 })).room s m ([.ref (ad 0 0), .int a, .int b] : List Value).toArray below meth c H locs 0 0 (MQ below (bQi (dC, dI) vwCl res.1 (fun pa => (xW cI cC cG ad pa res.2)) A) ([.ref (ad 0 0), .int a, .int b] : List Value).toArray s 0 0 A) (F0 m 445 ls [.int v_639]) := by
                                  intro H locs ls pa hP hD hS hl
                                  refine lv_istore (lv' := [(12, .int v_639), (13, .int 0), (11, .int 0), (10, .int v_14), (9, .int r_9), (8, .int v_8), (7, .int r_5), (6, .int r_4), (5, .int r_3), (4, .int r_2), (3, .int r_1), (0, .ref (ad 0 0)), (1, .int a), (2, .int b)]) hx hb dL_turn_445 hl (by decide) rfl (fun ls hl => ?_)
                                  refine lv_aload_n hx hb dL_turn_447 rfl (lv_at hl 11 rfl) ?_
                                  refine lv_iload_n hx hb dL_turn_448 rfl (lv_at hl 10 rfl) ?_
                                  obtain ⟨r_640, hr_640⟩ : ∃ z, z = (X_bluff r_1 x) := ⟨_, rfl⟩
                                  rw [bnd_e hr_640] at hv_336
                                  refine b_alli (W1 := fun pa => (xW cI cC cG ad pa r_640.2)) (va_runV (As := [.int r_1]) (rest := []) ⟨hx, hb, hml, hown, hts⟩ (cu_TC_bluff l dC dI cI cC cG cZ ad pa x r_1 hI.1.1 hI.1.2 hI.2.1 r_640 hr_640) (cwV 1 hts gL_turn_X6_bluff rfl rfl rfl (by decide +kernel) ⟨Nat.le_of_ble_eq_true rfl, Nat.le_of_ble_eq_true rfl⟩) (b_preV hP hK hD (ci := 6) (i0 := 0) (q0 := 0) rfl rfl rfl) rfl rfl hl.1 rfl (lv_room (Nat.le_of_ble_eq_true rfl)) dL_turn_449 ⟨Nat.zero_le _, Nat.zero_le _⟩) hD hS (fun H locs pa hP hD hS => ?_)
                                  have hIr_640 : IX r_640.2 := by rw [hr_640]; exact IX_turn hI
                                  have hP : bP (dC, dI) vwCl (xW cI cC cG ad pa r_640.2) H := hP
                                  have hD : bD A (xW cI cC cG ad pa r_640.2) := hD
                                  refine lv_istore (lv' := [(11, .int r_640.1), (12, .int v_639), (13, .int 0), (10, .int v_14), (9, .int r_9), (8, .int v_8), (7, .int r_5), (6, .int r_4), (5, .int r_3), (4, .int r_2), (3, .int r_1), (0, .ref (ad 0 0)), (1, .int a), (2, .int b)]) hx hb dL_turn_452 hl (by decide) rfl (fun ls hl => ?_)
                                  refine lv_goto (tgt := 558) hx hb dL_turn_454 (by decide) ?_
                                  subst hv_336
                                  exact hj558 _ _ _ _ hIr_640 hP hD hS (lv_sub hl [2, 1, 0, 3, 4, 5, 6, 7, 8, 9, 10, 11, 12, 13] rfl)
                                refine lv_iload_n hx hb dL_turn_411 rfl (lv_at hl 10 rfl) ?_
                                refine lv_bipush (v := 82) hx hb dL_turn_412 (by decide) ?_
                                refine lv_icmp_ne (tgt := 421) hx hb dL_turn_414 (by decide) (fun c_641 => ?_) (fun c_641 => ?_)
                                · rw [if_neg c_641] at hv_639
                                  refine lv_iload hx hb dL_turn_421 (lv_at hl 3 rfl) ?_
                                  refine lv_if_eq (tgt := 432) hx hb dL_turn_423 (by decide) (fun c_642 => ?_) (fun c_642 => ?_)
                                  · rw [if_pos c_642] at hv_639
                                    refine lv_bipush (v := (-5)) hx hb dL_turn_432 (by decide) ?_
                                    refine lv_goto (tgt := 445) hx hb dL_turn_434 (by decide) ?_
                                    subst hv_639
                                    exact hj445 _ _ _ _ hP hD hS (lv_sub hl [0, 1, 2, 3, 4, 5, 6, 7, 8, 9, 10, 11, 12, 13] rfl)
                                  · rw [if_neg c_642] at hv_639
                                    refine lv_iload hx hb dL_turn_426 (lv_at hl 4 rfl) ?_
                                    refine lv_iconst (v := 1) hx hb dL_turn_428 (by decide) ?_
                                    refine lv_icmp_eq (tgt := 437) hx hb dL_turn_429 (by decide) (fun c_643 => ?_) (fun c_643 => ?_)
                                    · rw [if_pos c_643] at hv_639
                                      refine lv_aload_n hx hb dL_turn_437 rfl (lv_at hl 11 rfl) ?_
                                      refine lv_bipush (v := 8) hx hb dL_turn_438 (by decide) ?_
                                      obtain ⟨r_644, hr_644⟩ : ∃ z, z = (F_TC_count (8 : Int32) (x.1.1 0) (x.1.1 1) (x.1.2.1 0) (x.1.2.1 1) (x.1.2.1 2) (x.1.2.2 0) (x.1.1 3) (x.1.1 11) x.2.2.2.2.2.1 (nI x.2.1)) := ⟨_, rfl⟩
                                      rw [bnd_e hr_644] at hv_639
                                      refine b_alle hr_644 (W1 := fun pa => (xW cI cC cG ad pa x)) (va_runV (As := [.int 8]) (rest := []) ⟨hx, hb, hml, hown, hts⟩ (cu_TC_count l dC dI cI cC cG cZ ad pa x (8 : Int32) ) (cwV 1 hts gL_turn_X6_count rfl rfl rfl (by decide +kernel) ⟨Nat.le_of_ble_eq_true rfl, Nat.le_of_ble_eq_true rfl⟩) (b_preV hP hK hD (ci := 6) (i0 := 0) (q0 := 0) rfl rfl rfl) rfl rfl hl.1 rfl (lv_room (Nat.le_of_ble_eq_true rfl)) dL_turn_440 ⟨Nat.zero_le _, Nat.zero_le _⟩) hD hS (fun H locs pa hP hD hS => ?_)
                                      have hP : bP (dC, dI) vwCl (xW cI cC cG ad pa x) H := hP
                                      have hD : bD A (xW cI cC cG ad pa x) := hD
                                      refine lv_iconst (v := 1) hx hb dL_turn_443 (by decide) ?_
                                      refine lv_iadd hx hb dL_turn_444 ?_
                                      subst hv_639
                                      exact hj445 _ _ _ _ hP hD hS (lv_sub hl [0, 1, 2, 3, 4, 5, 6, 7, 8, 9, 10, 11, 12, 13] rfl)
                                    · rw [if_neg c_643] at hv_639
                                      refine lv_bipush (v := (-5)) hx hb dL_turn_432 (by decide) ?_
                                      refine lv_goto (tgt := 445) hx hb dL_turn_434 (by decide) ?_
                                      subst hv_639
                                      exact hj445 _ _ _ _ hP hD hS (lv_sub hl [0, 1, 2, 3, 4, 5, 6, 7, 8, 9, 10, 11, 12, 13] rfl)
                                · rw [if_pos c_641] at hv_639
                                  refine lv_iconst (v := (-1)) hx hb dL_turn_417 (by decide) ?_
                                  refine lv_goto (tgt := 445) hx hb dL_turn_418 (by decide) ?_
                                  subst hv_639
                                  exact hj445 _ _ _ _ hP hD hS (lv_sub hl [0, 1, 2, 3, 4, 5, 6, 7, 8, 9, 10, 11, 12, 13] rfl)
                              · rw [if_neg c_634] at hv_336
                                by_cases c_645 : r_364 = 13
                                · rw [if_pos c_645] at hv_336
                                  refine lv_tableIn (off := 352) (tgt := 457) hx hb dL_turn_105 (by rw [c_645]; decide) (by rw [c_645]; decide) (by rw [c_645]; rfl) (by decide) ?_
                                  obtain ⟨v_651, hv_651⟩ : ∃ z : Int32, z = (if r_1 = 82 then (-1) else (if v_14 = 0 then (-5) else (bnd (F_TC_of r_1 (5 : Int32) (x.1.1 1) (x.1.2.1 0) (x.1.2.1 1) (x.1.2.1 2) (x.1.2.2 0) (x.1.2.2 1) (x.1.1 2) (x.1.2.2 2) (x.1.1 10) (x.1.2.2 3)) (fun r_648 => (if r_648 = ((1 : Int32) - r_2) then (if r_9 = 3 then 1 else 0) else (-5)))))) := ⟨_, rfl⟩
                                  rw [bnd_e hv_651] at hv_336
                                  have hj501 : ∀ (H : Heap) (locs : List Loc) (ls : Array Slot) (pa : Nat → Nat → Nat), bP (dC, dI) vwCl (xW cI cC cG ad pa x) H → bD A (xW cI cC cG ad pa x) → va_S A s.heap H locs → lv_has ls 16 [(13, .int 0), (12, .int 0), (11, .int 0), (10, .int v_14), (9, .int r_9), (8, .int v_8), (7, .int r_5), (6, .int r_4), (5, .int r_3), (4, .int r_2), (3, .int r_1), (0, .ref (ad 0 0)), (1, .int a), (2, .int b)] → W p l e (headSpec wsL_turn ({ frames := 8, cells := 0, slots := 0, locals := 171 })).room s m ([.ref (ad 0 0), .int a, .int b] : List Value).toArray below meth c H locs 0 0 (MQ below (bQi (dC, dI) vwCl res.1 (fun pa => (xW cI cC cG ad pa res.2)) A) ([.ref (ad 0 0), .int a, .int b] : List Value).toArray s 0 0 A) (F0 m 501 ls [.int v_651]) := by
                                    intro H locs ls pa hP hD hS hl
                                    refine lv_istore (lv' := [(12, .int v_651), (13, .int 0), (11, .int 0), (10, .int v_14), (9, .int r_9), (8, .int v_8), (7, .int r_5), (6, .int r_4), (5, .int r_3), (4, .int r_2), (3, .int r_1), (0, .ref (ad 0 0)), (1, .int a), (2, .int b)]) hx hb dL_turn_501 hl (by decide) rfl (fun ls hl => ?_)
                                    obtain ⟨v_654, hv_654⟩ : ∃ z : Int32, z = (if (0 : Int32) ≤ v_651 then (if v_651 = 1 then 2 else (-2)) else 0) := ⟨_, rfl⟩
                                    rw [bnd_e hv_654] at hv_336
                                    have hj524 : ∀ (H : Heap) (locs : List Loc) (ls : Array Slot) (pa : Nat → Nat → Nat), bP (dC, dI) vwCl (xW cI cC cG ad pa x) H → bD A (xW cI cC cG ad pa x) → va_S A s.heap H locs → lv_has ls 16 [(12, .int v_651), (13, .int 0), (11, .int 0), (10, .int v_14), (9, .int r_9), (8, .int v_8), (7, .int r_5), (6, .int r_4), (5, .int r_3), (4, .int r_2), (3, .int r_1), (0, .ref (ad 0 0)), (1, .int a), (2, .int b)] → W p l e (headSpec wsL_turn ({ frames := 8, cells := 0, slots := 0, locals := 171 })).room s m ([.ref (ad 0 0), .int a, .int b] : List Value).toArray below meth c H locs 0 0 (MQ below (bQi (dC, dI) vwCl res.1 (fun pa => (xW cI cC cG ad pa res.2)) A) ([.ref (ad 0 0), .int a, .int b] : List Value).toArray s 0 0 A) (F0 m 524 ls [.int v_654]) := by
                                      intro H locs ls pa hP hD hS hl
                                      refine lv_istore (lv' := [(13, .int v_654), (12, .int v_651), (11, .int 0), (10, .int v_14), (9, .int r_9), (8, .int v_8), (7, .int r_5), (6, .int r_4), (5, .int r_3), (4, .int r_2), (3, .int r_1), (0, .ref (ad 0 0)), (1, .int a), (2, .int b)]) hx hb dL_turn_524 hl (by decide) rfl (fun ls hl => ?_)
                                      refine lv_aload_n hx hb dL_turn_526 rfl (lv_at hl 11 rfl) ?_
                                      refine lv_iload_n hx hb dL_turn_527 rfl (lv_at hl 10 rfl) ?_
                                      obtain ⟨r_655, hr_655⟩ : ∃ z, z = (X_doubt r_1 x) := ⟨_, rfl⟩
                                      rw [bnd_e hr_655] at hv_336
                                      refine b_alli (W1 := fun pa => (xW cI cC cG ad pa r_655.2)) (va_runV (As := [.int r_1]) (rest := []) ⟨hx, hb, hml, hown, hts⟩ (cu_TC_doubt l dC dI cI cC cG cZ ad pa x r_1 hI.1.1 hI.1.2 hI.2.1 r_655 hr_655) (cwV 1 hts gL_turn_X6_doubt rfl rfl rfl (by decide +kernel) ⟨Nat.le_of_ble_eq_true rfl, Nat.le_of_ble_eq_true rfl⟩) (b_preV hP hK hD (ci := 6) (i0 := 0) (q0 := 0) rfl rfl rfl) rfl rfl hl.1 rfl (lv_room (Nat.le_of_ble_eq_true rfl)) dL_turn_528 ⟨Nat.zero_le _, Nat.zero_le _⟩) hD hS (fun H locs pa hP hD hS => ?_)
                                      have hIr_655 : IX r_655.2 := by rw [hr_655]; exact IX_turn hI
                                      have hP : bP (dC, dI) vwCl (xW cI cC cG ad pa r_655.2) H := hP
                                      have hD : bD A (xW cI cC cG ad pa r_655.2) := hD
                                      refine lv_istore (lv' := [(11, .int r_655.1), (13, .int v_654), (12, .int v_651), (10, .int v_14), (9, .int r_9), (8, .int v_8), (7, .int r_5), (6, .int r_4), (5, .int r_3), (4, .int r_2), (3, .int r_1), (0, .ref (ad 0 0)), (1, .int a), (2, .int b)]) hx hb dL_turn_531 hl (by decide) rfl (fun ls hl => ?_)
                                      refine lv_goto (tgt := 558) hx hb dL_turn_533 (by decide) ?_
                                      subst hv_336
                                      exact hj558 _ _ _ _ hIr_655 hP hD hS (lv_sub hl [1, 2, 0, 3, 4, 5, 6, 7, 8, 9, 10, 11, 12, 13] rfl)
                                    refine lv_iload hx hb dL_turn_503 (lv_at hl 0 rfl) ?_
                                    refine lv_if_ge (tgt := 512) hx hb dL_turn_505 (by decide) (fun c_656 => ?_) (fun c_656 => ?_)
                                    · rw [if_pos c_656] at hv_654
                                      refine lv_iload hx hb dL_turn_512 (lv_at hl 0 rfl) ?_
                                      refine lv_iconst (v := 1) hx hb dL_turn_514 (by decide) ?_
                                      refine lv_icmp_ne (tgt := 522) hx hb dL_turn_515 (by decide) (fun c_657 => ?_) (fun c_657 => ?_)
                                      · rw [if_neg c_657] at hv_654
                                        refine lv_bipush (v := (-2)) hx hb dL_turn_522 (by decide) ?_
                                        subst hv_654
                                        exact hj524 _ _ _ _ hP hD hS (lv_sub hl [0, 1, 2, 3, 4, 5, 6, 7, 8, 9, 10, 11, 12, 13] rfl)
                                      · rw [if_pos c_657] at hv_654
                                        refine lv_iconst (v := 2) hx hb dL_turn_518 (by decide) ?_
                                        refine lv_goto (tgt := 524) hx hb dL_turn_519 (by decide) ?_
                                        subst hv_654
                                        exact hj524 _ _ _ _ hP hD hS (lv_sub hl [0, 1, 2, 3, 4, 5, 6, 7, 8, 9, 10, 11, 12, 13] rfl)
                                    · rw [if_neg c_656] at hv_654
                                      refine lv_iconst (v := 0) hx hb dL_turn_508 (by decide) ?_
                                      refine lv_goto (tgt := 524) hx hb dL_turn_509 (by decide) ?_
                                      subst hv_654
                                      exact hj524 _ _ _ _ hP hD hS (lv_sub hl [0, 1, 2, 3, 4, 5, 6, 7, 8, 9, 10, 11, 12, 13] rfl)
                                  refine lv_iload_n hx hb dL_turn_457 rfl (lv_at hl 10 rfl) ?_
                                  refine lv_bipush (v := 82) hx hb dL_turn_458 (by decide) ?_
                                  refine lv_icmp_ne (tgt := 467) hx hb dL_turn_460 (by decide) (fun c_658 => ?_) (fun c_658 => ?_)
                                  · rw [if_neg c_658] at hv_651
                                    refine lv_iload hx hb dL_turn_467 (lv_at hl 3 rfl) ?_
                                    refine lv_if_eq (tgt := 485) hx hb dL_turn_469 (by decide) (fun c_659 => ?_) (fun c_659 => ?_)
                                    · rw [if_pos c_659] at hv_651
                                      refine lv_bipush (v := (-5)) hx hb dL_turn_485 (by decide) ?_
                                      refine lv_goto (tgt := 501) hx hb dL_turn_487 (by decide) ?_
                                      subst hv_651
                                      exact hj501 _ _ _ _ hP hD hS (lv_sub hl [0, 1, 2, 3, 4, 5, 6, 7, 8, 9, 10, 11, 12, 13] rfl)
                                    · rw [if_neg c_659] at hv_651
                                      refine lv_aload_n hx hb dL_turn_472 rfl (lv_at hl 11 rfl) ?_
                                      refine lv_iload_n hx hb dL_turn_473 rfl (lv_at hl 10 rfl) ?_
                                      refine lv_iconst (v := 5) hx hb dL_turn_474 (by decide) ?_
                                      obtain ⟨r_660, hr_660⟩ : ∃ z, z = (F_TC_of r_1 (5 : Int32) (x.1.1 1) (x.1.2.1 0) (x.1.2.1 1) (x.1.2.1 2) (x.1.2.2 0) (x.1.2.2 1) (x.1.1 2) (x.1.2.2 2) (x.1.1 10) (x.1.2.2 3)) := ⟨_, rfl⟩
                                      rw [bnd_e hr_660] at hv_651
                                      refine b_alle hr_660 (W1 := fun pa => (xW cI cC cG ad pa x)) (va_runV (As := [.int r_1, .int 5]) (rest := []) ⟨hx, hb, hml, hown, hts⟩ (cu_TC_of l dC dI cI cC cG cZ ad pa x r_1 (5 : Int32) hI.1.1 hI.1.2) (cwV 2 hts gL_turn_X6_of rfl rfl rfl (by decide +kernel) ⟨Nat.le_of_ble_eq_true rfl, Nat.le_of_ble_eq_true rfl⟩) (b_preV hP hK hD (ci := 6) (i0 := 0) (q0 := 0) rfl rfl rfl) rfl rfl hl.1 rfl (lv_room (Nat.le_of_ble_eq_true rfl)) dL_turn_475 ⟨Nat.zero_le _, Nat.zero_le _⟩) hD hS (fun H locs pa hP hD hS => ?_)
                                      have hP : bP (dC, dI) vwCl (xW cI cC cG ad pa x) H := hP
                                      have hD : bD A (xW cI cC cG ad pa x) := hD
                                      refine lv_iconst (v := 1) hx hb dL_turn_478 (by decide) ?_
                                      refine lv_iload hx hb dL_turn_479 (lv_at hl 9 rfl) ?_
                                      refine lv_isub hx hb dL_turn_481 ?_
                                      refine lv_icmp_eq (tgt := 490) hx hb dL_turn_482 (by decide) (fun c_661 => ?_) (fun c_661 => ?_)
                                      · rw [if_pos c_661] at hv_651
                                        refine lv_iload hx hb dL_turn_490 (lv_at hl 4 rfl) ?_
                                        refine lv_iconst (v := 3) hx hb dL_turn_492 (by decide) ?_
                                        refine lv_icmp_ne (tgt := 500) hx hb dL_turn_493 (by decide) (fun c_662 => ?_) (fun c_662 => ?_)
                                        · rw [if_neg c_662] at hv_651
                                          refine lv_iconst (v := 0) hx hb dL_turn_500 (by decide) ?_
                                          subst hv_651
                                          exact hj501 _ _ _ _ hP hD hS (lv_sub hl [0, 1, 2, 3, 4, 5, 6, 7, 8, 9, 10, 11, 12, 13] rfl)
                                        · rw [if_pos c_662] at hv_651
                                          refine lv_iconst (v := 1) hx hb dL_turn_496 (by decide) ?_
                                          refine lv_goto (tgt := 501) hx hb dL_turn_497 (by decide) ?_
                                          subst hv_651
                                          exact hj501 _ _ _ _ hP hD hS (lv_sub hl [0, 1, 2, 3, 4, 5, 6, 7, 8, 9, 10, 11, 12, 13] rfl)
                                      · rw [if_neg c_661] at hv_651
                                        refine lv_bipush (v := (-5)) hx hb dL_turn_485 (by decide) ?_
                                        refine lv_goto (tgt := 501) hx hb dL_turn_487 (by decide) ?_
                                        subst hv_651
                                        exact hj501 _ _ _ _ hP hD hS (lv_sub hl [0, 1, 2, 3, 4, 5, 6, 7, 8, 9, 10, 11, 12, 13] rfl)
                                  · rw [if_pos c_658] at hv_651
                                    refine lv_iconst (v := (-1)) hx hb dL_turn_463 (by decide) ?_
                                    refine lv_goto (tgt := 501) hx hb dL_turn_464 (by decide) ?_
                                    subst hv_651
                                    exact hj501 _ _ _ _ hP hD hS (lv_sub hl [0, 1, 2, 3, 4, 5, 6, 7, 8, 9, 10, 11, 12, 13] rfl)
                                · rw [if_neg c_645] at hv_336
                                  by_cases c_663 : r_364 = 14
                                  · rw [if_pos c_663] at hv_336
                                    refine lv_tableIn (off := 352) (tgt := 457) hx hb dL_turn_105 (by rw [c_663]; decide) (by rw [c_663]; decide) (by rw [c_663]; rfl) (by decide) ?_
                                    obtain ⟨v_669, hv_669⟩ : ∃ z : Int32, z = (if r_1 = 82 then (-1) else (if v_14 = 0 then (-5) else (bnd (F_TC_of r_1 (5 : Int32) (x.1.1 1) (x.1.2.1 0) (x.1.2.1 1) (x.1.2.1 2) (x.1.2.2 0) (x.1.2.2 1) (x.1.1 2) (x.1.2.2 2) (x.1.1 10) (x.1.2.2 3)) (fun r_666 => (if r_666 = ((1 : Int32) - r_2) then (if r_9 = 3 then 1 else 0) else (-5)))))) := ⟨_, rfl⟩
                                    rw [bnd_e hv_669] at hv_336
                                    have hj501 : ∀ (H : Heap) (locs : List Loc) (ls : Array Slot) (pa : Nat → Nat → Nat), bP (dC, dI) vwCl (xW cI cC cG ad pa x) H → bD A (xW cI cC cG ad pa x) → va_S A s.heap H locs → lv_has ls 16 [(13, .int 0), (12, .int 0), (11, .int 0), (10, .int v_14), (9, .int r_9), (8, .int v_8), (7, .int r_5), (6, .int r_4), (5, .int r_3), (4, .int r_2), (3, .int r_1), (0, .ref (ad 0 0)), (1, .int a), (2, .int b)] → W p l e (headSpec wsL_turn ({ frames := 8, cells := 0, slots := 0, locals := 171 })).room s m ([.ref (ad 0 0), .int a, .int b] : List Value).toArray below meth c H locs 0 0 (MQ below (bQi (dC, dI) vwCl res.1 (fun pa => (xW cI cC cG ad pa res.2)) A) ([.ref (ad 0 0), .int a, .int b] : List Value).toArray s 0 0 A) (F0 m 501 ls [.int v_669]) := by
                                      intro H locs ls pa hP hD hS hl
                                      refine lv_istore (lv' := [(12, .int v_669), (13, .int 0), (11, .int 0), (10, .int v_14), (9, .int r_9), (8, .int v_8), (7, .int r_5), (6, .int r_4), (5, .int r_3), (4, .int r_2), (3, .int r_1), (0, .ref (ad 0 0)), (1, .int a), (2, .int b)]) hx hb dL_turn_501 hl (by decide) rfl (fun ls hl => ?_)
                                      obtain ⟨v_672, hv_672⟩ : ∃ z : Int32, z = (if (0 : Int32) ≤ v_669 then (if v_669 = 1 then 2 else (-2)) else 0) := ⟨_, rfl⟩
                                      rw [bnd_e hv_672] at hv_336
                                      have hj524 : ∀ (H : Heap) (locs : List Loc) (ls : Array Slot) (pa : Nat → Nat → Nat), bP (dC, dI) vwCl (xW cI cC cG ad pa x) H → bD A (xW cI cC cG ad pa x) → va_S A s.heap H locs → lv_has ls 16 [(12, .int v_669), (13, .int 0), (11, .int 0), (10, .int v_14), (9, .int r_9), (8, .int v_8), (7, .int r_5), (6, .int r_4), (5, .int r_3), (4, .int r_2), (3, .int r_1), (0, .ref (ad 0 0)), (1, .int a), (2, .int b)] → W p l e (headSpec wsL_turn ({ frames := 8, cells := 0, slots := 0, locals := 171 })).room s m ([.ref (ad 0 0), .int a, .int b] : List Value).toArray below meth c H locs 0 0 (MQ below (bQi (dC, dI) vwCl res.1 (fun pa => (xW cI cC cG ad pa res.2)) A) ([.ref (ad 0 0), .int a, .int b] : List Value).toArray s 0 0 A) (F0 m 524 ls [.int v_672]) := by
                                        intro H locs ls pa hP hD hS hl
                                        refine lv_istore (lv' := [(13, .int v_672), (12, .int v_669), (11, .int 0), (10, .int v_14), (9, .int r_9), (8, .int v_8), (7, .int r_5), (6, .int r_4), (5, .int r_3), (4, .int r_2), (3, .int r_1), (0, .ref (ad 0 0)), (1, .int a), (2, .int b)]) hx hb dL_turn_524 hl (by decide) rfl (fun ls hl => ?_)
                                        refine lv_aload_n hx hb dL_turn_526 rfl (lv_at hl 11 rfl) ?_
                                        refine lv_iload_n hx hb dL_turn_527 rfl (lv_at hl 10 rfl) ?_
                                        obtain ⟨r_673, hr_673⟩ : ∃ z, z = (X_doubt r_1 x) := ⟨_, rfl⟩
                                        rw [bnd_e hr_673] at hv_336
                                        refine b_alli (W1 := fun pa => (xW cI cC cG ad pa r_673.2)) (va_runV (As := [.int r_1]) (rest := []) ⟨hx, hb, hml, hown, hts⟩ (cu_TC_doubt l dC dI cI cC cG cZ ad pa x r_1 hI.1.1 hI.1.2 hI.2.1 r_673 hr_673) (cwV 1 hts gL_turn_X6_doubt rfl rfl rfl (by decide +kernel) ⟨Nat.le_of_ble_eq_true rfl, Nat.le_of_ble_eq_true rfl⟩) (b_preV hP hK hD (ci := 6) (i0 := 0) (q0 := 0) rfl rfl rfl) rfl rfl hl.1 rfl (lv_room (Nat.le_of_ble_eq_true rfl)) dL_turn_528 ⟨Nat.zero_le _, Nat.zero_le _⟩) hD hS (fun H locs pa hP hD hS => ?_)
                                        have hIr_673 : IX r_673.2 := by rw [hr_673]; exact IX_turn hI
                                        have hP : bP (dC, dI) vwCl (xW cI cC cG ad pa r_673.2) H := hP
                                        have hD : bD A (xW cI cC cG ad pa r_673.2) := hD
                                        refine lv_istore (lv' := [(11, .int r_673.1), (13, .int v_672), (12, .int v_669), (10, .int v_14), (9, .int r_9), (8, .int v_8), (7, .int r_5), (6, .int r_4), (5, .int r_3), (4, .int r_2), (3, .int r_1), (0, .ref (ad 0 0)), (1, .int a), (2, .int b)]) hx hb dL_turn_531 hl (by decide) rfl (fun ls hl => ?_)
                                        refine lv_goto (tgt := 558) hx hb dL_turn_533 (by decide) ?_
                                        subst hv_336
                                        exact hj558 _ _ _ _ hIr_673 hP hD hS (lv_sub hl [1, 2, 0, 3, 4, 5, 6, 7, 8, 9, 10, 11, 12, 13] rfl)
                                      refine lv_iload hx hb dL_turn_503 (lv_at hl 0 rfl) ?_
                                      refine lv_if_ge (tgt := 512) hx hb dL_turn_505 (by decide) (fun c_674 => ?_) (fun c_674 => ?_)
                                      · rw [if_pos c_674] at hv_672
                                        refine lv_iload hx hb dL_turn_512 (lv_at hl 0 rfl) ?_
                                        refine lv_iconst (v := 1) hx hb dL_turn_514 (by decide) ?_
                                        refine lv_icmp_ne (tgt := 522) hx hb dL_turn_515 (by decide) (fun c_675 => ?_) (fun c_675 => ?_)
                                        · rw [if_neg c_675] at hv_672
                                          refine lv_bipush (v := (-2)) hx hb dL_turn_522 (by decide) ?_
                                          subst hv_672
                                          exact hj524 _ _ _ _ hP hD hS (lv_sub hl [0, 1, 2, 3, 4, 5, 6, 7, 8, 9, 10, 11, 12, 13] rfl)
                                        · rw [if_pos c_675] at hv_672
                                          refine lv_iconst (v := 2) hx hb dL_turn_518 (by decide) ?_
                                          refine lv_goto (tgt := 524) hx hb dL_turn_519 (by decide) ?_
                                          subst hv_672
                                          exact hj524 _ _ _ _ hP hD hS (lv_sub hl [0, 1, 2, 3, 4, 5, 6, 7, 8, 9, 10, 11, 12, 13] rfl)
                                      · rw [if_neg c_674] at hv_672
                                        refine lv_iconst (v := 0) hx hb dL_turn_508 (by decide) ?_
                                        refine lv_goto (tgt := 524) hx hb dL_turn_509 (by decide) ?_
                                        subst hv_672
                                        exact hj524 _ _ _ _ hP hD hS (lv_sub hl [0, 1, 2, 3, 4, 5, 6, 7, 8, 9, 10, 11, 12, 13] rfl)
                                    refine lv_iload_n hx hb dL_turn_457 rfl (lv_at hl 10 rfl) ?_
                                    refine lv_bipush (v := 82) hx hb dL_turn_458 (by decide) ?_
                                    refine lv_icmp_ne (tgt := 467) hx hb dL_turn_460 (by decide) (fun c_676 => ?_) (fun c_676 => ?_)
                                    · rw [if_neg c_676] at hv_669
                                      refine lv_iload hx hb dL_turn_467 (lv_at hl 3 rfl) ?_
                                      refine lv_if_eq (tgt := 485) hx hb dL_turn_469 (by decide) (fun c_677 => ?_) (fun c_677 => ?_)
                                      · rw [if_pos c_677] at hv_669
                                        refine lv_bipush (v := (-5)) hx hb dL_turn_485 (by decide) ?_
                                        refine lv_goto (tgt := 501) hx hb dL_turn_487 (by decide) ?_
                                        subst hv_669
                                        exact hj501 _ _ _ _ hP hD hS (lv_sub hl [0, 1, 2, 3, 4, 5, 6, 7, 8, 9, 10, 11, 12, 13] rfl)
                                      · rw [if_neg c_677] at hv_669
                                        refine lv_aload_n hx hb dL_turn_472 rfl (lv_at hl 11 rfl) ?_
                                        refine lv_iload_n hx hb dL_turn_473 rfl (lv_at hl 10 rfl) ?_
                                        refine lv_iconst (v := 5) hx hb dL_turn_474 (by decide) ?_
                                        obtain ⟨r_678, hr_678⟩ : ∃ z, z = (F_TC_of r_1 (5 : Int32) (x.1.1 1) (x.1.2.1 0) (x.1.2.1 1) (x.1.2.1 2) (x.1.2.2 0) (x.1.2.2 1) (x.1.1 2) (x.1.2.2 2) (x.1.1 10) (x.1.2.2 3)) := ⟨_, rfl⟩
                                        rw [bnd_e hr_678] at hv_669
                                        refine b_alle hr_678 (W1 := fun pa => (xW cI cC cG ad pa x)) (va_runV (As := [.int r_1, .int 5]) (rest := []) ⟨hx, hb, hml, hown, hts⟩ (cu_TC_of l dC dI cI cC cG cZ ad pa x r_1 (5 : Int32) hI.1.1 hI.1.2) (cwV 2 hts gL_turn_X6_of rfl rfl rfl (by decide +kernel) ⟨Nat.le_of_ble_eq_true rfl, Nat.le_of_ble_eq_true rfl⟩) (b_preV hP hK hD (ci := 6) (i0 := 0) (q0 := 0) rfl rfl rfl) rfl rfl hl.1 rfl (lv_room (Nat.le_of_ble_eq_true rfl)) dL_turn_475 ⟨Nat.zero_le _, Nat.zero_le _⟩) hD hS (fun H locs pa hP hD hS => ?_)
                                        have hP : bP (dC, dI) vwCl (xW cI cC cG ad pa x) H := hP
                                        have hD : bD A (xW cI cC cG ad pa x) := hD
                                        refine lv_iconst (v := 1) hx hb dL_turn_478 (by decide) ?_
                                        refine lv_iload hx hb dL_turn_479 (lv_at hl 9 rfl) ?_
                                        refine lv_isub hx hb dL_turn_481 ?_
                                        refine lv_icmp_eq (tgt := 490) hx hb dL_turn_482 (by decide) (fun c_679 => ?_) (fun c_679 => ?_)
                                        · rw [if_pos c_679] at hv_669
                                          refine lv_iload hx hb dL_turn_490 (lv_at hl 4 rfl) ?_
                                          refine lv_iconst (v := 3) hx hb dL_turn_492 (by decide) ?_
                                          refine lv_icmp_ne (tgt := 500) hx hb dL_turn_493 (by decide) (fun c_680 => ?_) (fun c_680 => ?_)
                                          · rw [if_neg c_680] at hv_669
                                            refine lv_iconst (v := 0) hx hb dL_turn_500 (by decide) ?_
                                            subst hv_669
                                            exact hj501 _ _ _ _ hP hD hS (lv_sub hl [0, 1, 2, 3, 4, 5, 6, 7, 8, 9, 10, 11, 12, 13] rfl)
                                          · rw [if_pos c_680] at hv_669
                                            refine lv_iconst (v := 1) hx hb dL_turn_496 (by decide) ?_
                                            refine lv_goto (tgt := 501) hx hb dL_turn_497 (by decide) ?_
                                            subst hv_669
                                            exact hj501 _ _ _ _ hP hD hS (lv_sub hl [0, 1, 2, 3, 4, 5, 6, 7, 8, 9, 10, 11, 12, 13] rfl)
                                        · rw [if_neg c_679] at hv_669
                                          refine lv_bipush (v := (-5)) hx hb dL_turn_485 (by decide) ?_
                                          refine lv_goto (tgt := 501) hx hb dL_turn_487 (by decide) ?_
                                          subst hv_669
                                          exact hj501 _ _ _ _ hP hD hS (lv_sub hl [0, 1, 2, 3, 4, 5, 6, 7, 8, 9, 10, 11, 12, 13] rfl)
                                    · rw [if_pos c_676] at hv_669
                                      refine lv_iconst (v := (-1)) hx hb dL_turn_463 (by decide) ?_
                                      refine lv_goto (tgt := 501) hx hb dL_turn_464 (by decide) ?_
                                      subst hv_669
                                      exact hj501 _ _ _ _ hP hD hS (lv_sub hl [0, 1, 2, 3, 4, 5, 6, 7, 8, 9, 10, 11, 12, 13] rfl)
                                  · rw [if_neg c_663] at hv_336
                                    refine lv_tableOut (tgt := 536) hx hb dL_turn_105 (by have oc_365 := lv_neT (a := 0) c_365 rfl; have oc_391 := lv_neT (a := 1) c_391 rfl; have oc_417 := lv_neT (a := 2) c_417 rfl; have oc_443 := lv_neT (a := 3) c_443 rfl; have oc_469 := lv_neT (a := 4) c_469 rfl; have oc_495 := lv_neT (a := 5) c_495 rfl; have oc_521 := lv_neT (a := 6) c_521 rfl; have oc_547 := lv_neT (a := 7) c_547 rfl; have oc_573 := lv_neT (a := 8) c_573 rfl; have oc_599 := lv_neT (a := 9) c_599 rfl; have oc_611 := lv_neT (a := 10) c_611 rfl; have oc_623 := lv_neT (a := 11) c_623 rfl; have oc_634 := lv_neT (a := 12) c_634 rfl; have oc_645 := lv_neT (a := 13) c_645 rfl; have oc_663 := lv_neT (a := 14) c_663 rfl; omega) (by decide) ?_
                                    obtain ⟨v_682, hv_682⟩ : ∃ z : Int32, z = (if v_8 = 0 then ((1 : Int32) - r_2) else (-5)) := ⟨_, rfl⟩
                                    rw [bnd_e hv_682] at hv_336
                                    have hj550 : ∀ (H : Heap) (locs : List Loc) (ls : Array Slot) (pa : Nat → Nat → Nat), bP (dC, dI) vwCl (xW cI cC cG ad pa x) H → bD A (xW cI cC cG ad pa x) → va_S A s.heap H locs → lv_has ls 16 [(13, .int 0), (12, .int 0), (11, .int 0), (10, .int v_14), (9, .int r_9), (8, .int v_8), (7, .int r_5), (6, .int r_4), (5, .int r_3), (4, .int r_2), (3, .int r_1), (0, .ref (ad 0 0)), (1, .int a), (2, .int b)] → W p l e (headSpec wsL_turn ({ frames := 8, cells := 0, slots := 0, locals := 171 })).room s m ([.ref (ad 0 0), .int a, .int b] : List Value).toArray below meth c H locs 0 0 (MQ below (bQi (dC, dI) vwCl res.1 (fun pa => (xW cI cC cG ad pa res.2)) A) ([.ref (ad 0 0), .int a, .int b] : List Value).toArray s 0 0 A) (F0 m 550 ls [.int v_682]) := by
                                      intro H locs ls pa hP hD hS hl
                                      refine lv_istore (lv' := [(12, .int v_682), (13, .int 0), (11, .int 0), (10, .int v_14), (9, .int r_9), (8, .int v_8), (7, .int r_5), (6, .int r_4), (5, .int r_3), (4, .int r_2), (3, .int r_1), (0, .ref (ad 0 0)), (1, .int a), (2, .int b)]) hx hb dL_turn_550 hl (by decide) rfl (fun ls hl => ?_)
                                      refine lv_aload_n hx hb dL_turn_552 rfl (lv_at hl 11 rfl) ?_
                                      obtain ⟨r_683, hr_683⟩ : ∃ z, z = (X_pass  x) := ⟨_, rfl⟩
                                      rw [bnd_e hr_683] at hv_336
                                      refine b_alli (W1 := fun pa => (xW cI cC cG ad pa r_683.2)) (va_runV (As := []) (rest := []) ⟨hx, hb, hml, hown, hts⟩ (cu_TC_pass l dC dI cI cC cG cZ ad pa x  hI.1.1 hI.1.2 hI.2.1 r_683 hr_683) (cwV 0 hts gL_turn_X6_pass rfl rfl rfl (by decide +kernel) ⟨Nat.le_of_ble_eq_true rfl, Nat.le_of_ble_eq_true rfl⟩) (b_preV hP hK hD (ci := 6) (i0 := 0) (q0 := 0) rfl rfl rfl) rfl rfl hl.1 rfl (lv_room (Nat.le_of_ble_eq_true rfl)) dL_turn_553 ⟨Nat.zero_le _, Nat.zero_le _⟩) hD hS (fun H locs pa hP hD hS => ?_)
                                      have hIr_683 : IX r_683.2 := by rw [hr_683]; exact IX_turn hI
                                      have hP : bP (dC, dI) vwCl (xW cI cC cG ad pa r_683.2) H := hP
                                      have hD : bD A (xW cI cC cG ad pa r_683.2) := hD
                                      refine lv_istore (lv' := [(11, .int r_683.1), (12, .int v_682), (13, .int 0), (10, .int v_14), (9, .int r_9), (8, .int v_8), (7, .int r_5), (6, .int r_4), (5, .int r_3), (4, .int r_2), (3, .int r_1), (0, .ref (ad 0 0)), (1, .int a), (2, .int b)]) hx hb dL_turn_556 hl (by decide) rfl (fun ls hl => ?_)
                                      subst hv_336
                                      exact hj558 _ _ _ _ hIr_683 hP hD hS (lv_sub hl [2, 1, 0, 3, 4, 5, 6, 7, 8, 9, 10, 11, 12, 13] rfl)
                                    refine lv_iload hx hb dL_turn_536 (lv_at hl 5 rfl) ?_
                                    refine lv_if_eq (tgt := 546) hx hb dL_turn_538 (by decide) (fun c_684 => ?_) (fun c_684 => ?_)
                                    · rw [if_pos c_684] at hv_682
                                      refine lv_iconst (v := 1) hx hb dL_turn_546 (by decide) ?_
                                      refine lv_iload hx hb dL_turn_547 (lv_at hl 9 rfl) ?_
                                      refine lv_isub hx hb dL_turn_549 ?_
                                      subst hv_682
                                      exact hj550 _ _ _ _ hP hD hS (lv_sub hl [0, 1, 2, 3, 4, 5, 6, 7, 8, 9, 10, 11, 12, 13] rfl)
                                    · rw [if_neg c_684] at hv_682
                                      refine lv_bipush (v := (-5)) hx hb dL_turn_541 (by decide) ?_
                                      refine lv_goto (tgt := 550) hx hb dL_turn_543 (by decide) ?_
                                      subst hv_682
                                      exact hj550 _ _ _ _ hP hD hS (lv_sub hl [0, 1, 2, 3, 4, 5, 6, 7, 8, 9, 10, 11, 12, 13] rfl)
    refine lv_iload hx hb dL_turn_63 (lv_at hl 1 rfl) ?_
    refine lv_if_ne (tgt := 87) hx hb dL_turn_65 (by decide) (fun c_685 => ?_) (fun c_685 => ?_)
    · rw [if_neg c_685] at hv_14
      refine lv_iconst (v := 0) hx hb dL_turn_87 (by decide) ?_
      subst hv_14
      exact hj88 _ _ _ _ hP hD hS (lv_sub hl [0, 1, 2, 3, 4, 5, 6, 7, 8, 9] rfl)
    · rw [if_pos c_685] at hv_14
      refine lv_iload_n hx hb dL_turn_68 rfl (lv_at hl 6 rfl) ?_
      refine lv_bipush (v := 82) hx hb dL_turn_69 (by decide) ?_
      refine lv_icmp_ge (tgt := 87) hx hb dL_turn_71 (by decide) (fun c_686 => ?_) (fun c_686 => ?_)
      · rw [if_pos c_686] at hv_14
        refine lv_iconst (v := 0) hx hb dL_turn_87 (by decide) ?_
        subst hv_14
        exact hj88 _ _ _ _ hP hD hS (lv_sub hl [0, 1, 2, 3, 4, 5, 6, 7, 8, 9] rfl)
      · rw [if_neg c_686] at hv_14
        refine lv_aload_n hx hb dL_turn_74 rfl (lv_at hl 7 rfl) ?_
        refine lv_iload_n hx hb dL_turn_75 rfl (lv_at hl 6 rfl) ?_
        refine lv_iconst (v := 1) hx hb dL_turn_76 (by decide) ?_
        obtain ⟨r_687, hr_687⟩ : ∃ z, z = (F_TC_of r_1 (1 : Int32) (x.1.1 1) (x.1.2.1 0) (x.1.2.1 1) (x.1.2.1 2) (x.1.2.2 0) (x.1.2.2 1) (x.1.1 2) (x.1.2.2 2) (x.1.1 10) (x.1.2.2 3)) := ⟨_, rfl⟩
        rw [bnd_e hr_687] at hv_14
        refine b_alle hr_687 (W1 := fun pa => (xW cI cC cG ad pa x)) (va_runV (As := [.int r_1, .int 1]) (rest := []) ⟨hx, hb, hml, hown, hts⟩ (cu_TC_of l dC dI cI cC cG cZ ad pa x r_1 (1 : Int32) hI.1.1 hI.1.2) (cwV 2 hts gL_turn_X6_of rfl rfl rfl (by decide +kernel) ⟨Nat.le_of_ble_eq_true rfl, Nat.le_of_ble_eq_true rfl⟩) (b_preV hP hK hD (ci := 6) (i0 := 0) (q0 := 0) rfl rfl rfl) rfl rfl hl.1 rfl (lv_room (Nat.le_of_ble_eq_true rfl)) dL_turn_77 ⟨Nat.zero_le _, Nat.zero_le _⟩) hD hS (fun H locs pa hP hD hS => ?_)
        have hP : bP (dC, dI) vwCl (xW cI cC cG ad pa x) H := hP
        have hD : bD A (xW cI cC cG ad pa x) := hD
        refine lv_if_ne (tgt := 87) hx hb dL_turn_80 (by decide) (fun c_688 => ?_) (fun c_688 => ?_)
        · rw [if_neg c_688] at hv_14
          refine lv_iconst (v := 0) hx hb dL_turn_87 (by decide) ?_
          subst hv_14
          exact hj88 _ _ _ _ hP hD hS (lv_sub hl [0, 1, 2, 3, 4, 5, 6, 7, 8, 9] rfl)
        · rw [if_pos c_688] at hv_14
          refine lv_iconst (v := 1) hx hb dL_turn_83 (by decide) ?_
          refine lv_goto (tgt := 88) hx hb dL_turn_84 (by decide) ?_
          subst hv_14
          exact hj88 _ _ _ _ hP hD hS (lv_sub hl [0, 1, 2, 3, 4, 5, 6, 7, 8, 9] rfl)
  refine lv_aload_n hx hb dL_turn_39 rfl (lv_at hl 5 rfl) ?_
  refine lv_iconst (v := 2) hx hb dL_turn_40 (by decide) ?_
  obtain ⟨r_689, hr_689⟩ : ∃ z, z = (F_TC_count (2 : Int32) (x.1.1 0) (x.1.1 1) (x.1.2.1 0) (x.1.2.1 1) (x.1.2.1 2) (x.1.2.2 0) (x.1.1 3) (x.1.1 11) x.2.2.2.2.2.1 (nI x.2.1)) := ⟨_, rfl⟩
  rw [bnd_e hr_689] at hv_8
  refine b_alle hr_689 (W1 := fun pa => (xW cI cC cG ad pa x)) (va_runV (As := [.int 2]) (rest := []) ⟨hx, hb, hml, hown, hts⟩ (cu_TC_count l dC dI cI cC cG cZ ad pa x (2 : Int32) ) (cwV 1 hts gL_turn_X6_count rfl rfl rfl (by decide +kernel) ⟨Nat.le_of_ble_eq_true rfl, Nat.le_of_ble_eq_true rfl⟩) (b_preV hP hK hD (ci := 6) (i0 := 0) (q0 := 0) rfl rfl rfl) rfl rfl hl.1 rfl (lv_room (Nat.le_of_ble_eq_true rfl)) dL_turn_41 ⟨Nat.zero_le _, Nat.zero_le _⟩) hD hS (fun H locs pa hP hD hS => ?_)
  have hP : bP (dC, dI) vwCl (xW cI cC cG ad pa x) H := hP
  have hD : bD A (xW cI cC cG ad pa x) := hD
  refine lv_iconst (v := 1) hx hb dL_turn_44 (by decide) ?_
  refine lv_icmp_ne (tgt := 52) hx hb dL_turn_45 (by decide) (fun c_690 => ?_) (fun c_690 => ?_)
  · rw [if_neg c_690] at hv_8
    refine lv_iconst (v := 0) hx hb dL_turn_52 (by decide) ?_
    subst hv_8
    exact hj53 _ _ _ _ hP hD hS (lv_sub hl [0, 1, 2, 3, 4, 5, 6, 7] rfl)
  · rw [if_pos c_690] at hv_8
    refine lv_iconst (v := 1) hx hb dL_turn_48 (by decide) ?_
    refine lv_goto (tgt := 53) hx hb dL_turn_49 (by decide) ?_
    subst hv_8
    exact hj53 _ _ _ _ hP hD hS (lv_sub hl [0, 1, 2, 3, 4, 5, 6, 7] rfl)
