/-! a crash, what is altered, and recovery: the law's method in its stages (crF, crR, crS, crT are its own continuations) -/
def crF (v_p0_commit_checkpoint : Int32) (v_p0_commit_max : Int32) (v_p0_log_oldest : Int32) (v_p0_log_current : Int32) (w44 : Nat → Int32) (r9 : Int32) (r11 : Int32) (z20 : Int32) (z8 : Int32) (z5 : Int32) (w79 : Nat → Int32) (w80 : Nat → Int32) (w81 : Nat → Int32) (w82 : Nat → Int64) (w83 : Int32) (w84 : Int32) (w85 : Int64) (w86 : Nat → Int32) (w87 : Nat → Int32) (w88 : Nat → Int32) (w89 : Nat → Int64) (w90 : Int32) (w91 : Nat → Int32) (w92 : Nat → Int32) (w93 : Int32) (w94 : Int32) (w95 : Int32) (w96 : Int32) (w97 : Int64) (w98 : Int32) (w99 : Int32) (w100 : Int32) : Option ((Int32) × (Nat → Int32) × (Nat → Int32) × (Nat → Int32) × (Nat → Int64) × (Int32) × (Int32) × (Int64) × (Nat → Int32) × (Nat → Int32) × (Nat → Int32) × (Nat → Int64) × (Int32) × (Nat → Int32) × (Nat → Int32) × (Nat → Int32) × (Int32) × (Int32) × (Int32) × (Int32) × (Int64) × (Int32) × (Int32) × (Int32)) :=
  (cal1 (fX5_info w83 w84 v_p0_commit_checkpoint v_p0_commit_max w86 v_p0_log_oldest v_p0_log_current w90 w91 w98 w100 1) (fun r101 => (cal1 (fX5_info w83 w84 v_p0_commit_checkpoint v_p0_commit_max w86 v_p0_log_oldest v_p0_log_current w90 w91 w98 w100 0) (fun r103 => (jp (some ((-9), w79, w80, w81, w82, w83, w84, w85, w86, w87, w88, w89, w90, w44, w91, w92, w93, w94, w95, w96, w97, w98, w99, w100)) (fun J359 => (if r101 = r103 then (if r101 < r9 then J359 else (if r11 < r101 then J359 else (cal1 (fX5_info w83 w84 v_p0_commit_checkpoint v_p0_commit_max w86 v_p0_log_oldest v_p0_log_current w90 w91 w98 w100 6) (fun r105 => (cal1 (fX5_info w83 w84 v_p0_commit_checkpoint v_p0_commit_max w86 v_p0_log_oldest v_p0_log_current w90 w91 w98 w100 5) (fun r107 => (if r105 = r107 then (cal1 (fX5_info w83 w84 v_p0_commit_checkpoint v_p0_commit_max w86 v_p0_log_oldest v_p0_log_current w90 w91 w98 w100 2) (fun r109 => (if r109 = r101 then (cal1 (fX5_info w83 w84 v_p0_commit_checkpoint v_p0_commit_max w86 v_p0_log_oldest v_p0_log_current w90 w91 w98 w100 10) (fun r111 => (cal1 (fL_documents w79 w80 w81 w86 w87 w100) (fun r113 => (if r111 = r113 then (jp (fun (k115 : Int32) => (some (k115, w79, w80, w81, w82, w83, w84, w85, w86, w87, w88, w89, w90, w44, w91, w92, w93, w94, w95, w96, w97, w98, w99, w100))) (fun J404 => (jp (J404 (-9)) (fun J397 => (jp (jp (J404 r101) (fun J402 => (if z20 = 1 then (if z8 ≤ 0 then J402 else (if r101 = r11 then J397 else J402)) else J402))) (fun J380 => (if z8 = z5 then (if z20 = 1 then J380 else (if r101 = r11 then J380 else J397)) else J380))))))) else J359))))) else J359))) else J359))))))) else J359)))))))
def crR (v_p0_commit_checkpoint : Int32) (v_p0_commit_max : Int32) (v_p0_log_oldest : Int32) (v_p0_log_current : Int32) (w44 : Nat → Int32) (r9 : Int32) (r11 : Int32) (z20 : Int32) (z8 : Int32) (z5 : Int32) (v_p0_commit_documents_kinds : Nat → Int32) (v_p0_commit_documents_seqs : Nat → Int32) (v_p0_commit_documents_versions : Nat → Int32) (v_p0_commit_documents_sources : Nat → Int64) (w55 : Nat → Int32) (w56 : Nat → Int32) (w57 : Nat → Int32) (w58 : Nat → Int64) (w59 : Int32) (w60 : Int32) (w61 : Int64) (w62 : Nat → Int32) (w63 : Nat → Int32) (w64 : Nat → Int32) (w65 : Nat → Int64) (w66 : Int32) (w67 : Nat → Int32) (w68 : Nat → Int32) (w69 : Int32) (w70 : Int32) (w71 : Int32) (w72 : Int32) (w73 : Int64) (w74 : Int32) (w75 : Int32) (w76 : Int32) : Option ((Int32) × (Nat → Int32) × (Nat → Int32) × (Nat → Int32) × (Nat → Int64) × (Int32) × (Int32) × (Int64) × (Nat → Int32) × (Nat → Int32) × (Nat → Int32) × (Nat → Int64) × (Int32) × (Nat → Int32) × (Nat → Int32) × (Nat → Int32) × (Int32) × (Int32) × (Int32) × (Int32) × (Int64) × (Int32) × (Int32) × (Int32)) :=
  (cal1 (fX5_info w59 w60 v_p0_commit_checkpoint v_p0_commit_max w62 v_p0_log_oldest v_p0_log_current w66 w67 w74 w76 7) (fun r77 => (jp (fun (w79 : Nat → Int32) (w80 : Nat → Int32) (w81 : Nat → Int32) (w82 : Nat → Int64) (w83 : Int32) (w84 : Int32) (w85 : Int64) (w86 : Nat → Int32) (w87 : Nat → Int32) (w88 : Nat → Int32) (w89 : Nat → Int64) (w90 : Int32) (w91 : Nat → Int32) (w92 : Nat → Int32) (w93 : Int32) (w94 : Int32) (w95 : Int32) (w96 : Int32) (w97 : Int64) (w98 : Int32) (w99 : Int32) (w100 : Int32) => (cal1 (fX5_info w83 w84 v_p0_commit_checkpoint v_p0_commit_max w86 v_p0_log_oldest v_p0_log_current w90 w91 w98 w100 1) (fun r101 => (cal1 (fX5_info w83 w84 v_p0_commit_checkpoint v_p0_commit_max w86 v_p0_log_oldest v_p0_log_current w90 w91 w98 w100 0) (fun r103 => (jp (some ((-9), w79, w80, w81, w82, w83, w84, w85, w86, w87, w88, w89, w90, w44, w91, w92, w93, w94, w95, w96, w97, w98, w99, w100)) (fun J359 => (if r101 = r103 then (if r101 < r9 then J359 else (if r11 < r101 then J359 else (cal1 (fX5_info w83 w84 v_p0_commit_checkpoint v_p0_commit_max w86 v_p0_log_oldest v_p0_log_current w90 w91 w98 w100 6) (fun r105 => (cal1 (fX5_info w83 w84 v_p0_commit_checkpoint v_p0_commit_max w86 v_p0_log_oldest v_p0_log_current w90 w91 w98 w100 5) (fun r107 => (if r105 = r107 then (cal1 (fX5_info w83 w84 v_p0_commit_checkpoint v_p0_commit_max w86 v_p0_log_oldest v_p0_log_current w90 w91 w98 w100 2) (fun r109 => (if r109 = r101 then (cal1 (fX5_info w83 w84 v_p0_commit_checkpoint v_p0_commit_max w86 v_p0_log_oldest v_p0_log_current w90 w91 w98 w100 10) (fun r111 => (cal1 (fL_documents w79 w80 w81 w86 w87 w100) (fun r113 => (if r111 = r113 then (jp (fun (k115 : Int32) => (some (k115, w79, w80, w81, w82, w83, w84, w85, w86, w87, w88, w89, w90, w44, w91, w92, w93, w94, w95, w96, w97, w98, w99, w100))) (fun J404 => (jp (J404 (-9)) (fun J397 => (jp (jp (J404 r101) (fun J402 => (if z20 = 1 then (if z8 ≤ 0 then J402 else (if r101 = r11 then J397 else J402)) else J402))) (fun J380 => (if z8 = z5 then (if z20 = 1 then J380 else (if r101 = r11 then J380 else J397)) else J380))))))) else J359))))) else J359))) else J359))))))) else J359)))))))) (fun J291 => (if r77 = 1 then (cal23 (fX5_recover w55 w56 w57 w58 w59 w60 w61 v_p0_commit_documents_kinds v_p0_commit_documents_seqs v_p0_commit_documents_versions v_p0_commit_documents_sources v_p0_commit_checkpoint v_p0_commit_max w62 w63 w64 w65 v_p0_log_oldest v_p0_log_current w66 w44 w67 w68 w69 w70 w71 w72 w73 w74 w75 w76 (-1)) (fun r116 u117 u118 u119 u120 u121 u122 u123 u124 u125 u126 u127 u128 u129 u130 u131 u132 u133 u134 u135 u136 u137 u138 => (if 0 ≤ r116 then (J291 u117 u118 u119 u120 u121 u122 u123 u124 u125 u126 u127 u128 u129 u130 u131 u132 u133 u134 u135 u136 u137 u138) else (some ((-9), u117, u118, u119, u120, u121, u122, u123, u124, u125, u126, u127, u128, w44, u129, u130, u131, u132, u133, u134, u135, u136, u137, u138))))) else (J291 w55 w56 w57 w58 w59 w60 w61 w62 w63 w64 w65 w66 w67 w68 w69 w70 w71 w72 w73 w74 w75 w76))))))
def crS (v_p0_commit_checkpoint : Int32) (v_p0_commit_max : Int32) (v_p0_log_oldest : Int32) (v_p0_log_current : Int32) (r9 : Int32) (r11 : Int32) (z20 : Int32) (z8 : Int32) (z5 : Int32) (v_p0_commit_documents_kinds : Nat → Int32) (v_p0_commit_documents_seqs : Nat → Int32) (v_p0_commit_documents_versions : Nat → Int32) (v_p0_commit_documents_sources : Nat → Int64) (x1 : Int32) (w32 : Nat → Int32) (w33 : Nat → Int32) (w34 : Nat → Int32) (w35 : Nat → Int64) (w36 : Int32) (w37 : Int32) (w38 : Int64) (w39 : Nat → Int32) (w40 : Nat → Int32) (w41 : Nat → Int32) (w42 : Nat → Int64) (w43 : Int32) (w44 : Nat → Int32) (w45 : Nat → Int32) (w46 : Nat → Int32) (w47 : Int32) (w48 : Int32) (w49 : Int32) (w50 : Int32) (w51 : Int64) (w52 : Int32) (w53 : Int32) (w54 : Int32) : Option ((Int32) × (Nat → Int32) × (Nat → Int32) × (Nat → Int32) × (Nat → Int64) × (Int32) × (Int32) × (Int64) × (Nat → Int32) × (Nat → Int32) × (Nat → Int32) × (Nat → Int64) × (Int32) × (Nat → Int32) × (Nat → Int32) × (Nat → Int32) × (Int32) × (Int32) × (Int32) × (Int32) × (Int64) × (Int32) × (Int32) × (Int32)) :=
  (jp (fun (w55 : Nat → Int32) (w56 : Nat → Int32) (w57 : Nat → Int32) (w58 : Nat → Int64) (w59 : Int32) (w60 : Int32) (w61 : Int64) (w62 : Nat → Int32) (w63 : Nat → Int32) (w64 : Nat → Int32) (w65 : Nat → Int64) (w66 : Int32) (w67 : Nat → Int32) (w68 : Nat → Int32) (w69 : Int32) (w70 : Int32) (w71 : Int32) (w72 : Int32) (w73 : Int64) (w74 : Int32) (w75 : Int32) (w76 : Int32) => (cal1 (fX5_info w59 w60 v_p0_commit_checkpoint v_p0_commit_max w62 v_p0_log_oldest v_p0_log_current w66 w67 w74 w76 7) (fun r77 => (jp (fun (w79 : Nat → Int32) (w80 : Nat → Int32) (w81 : Nat → Int32) (w82 : Nat → Int64) (w83 : Int32) (w84 : Int32) (w85 : Int64) (w86 : Nat → Int32) (w87 : Nat → Int32) (w88 : Nat → Int32) (w89 : Nat → Int64) (w90 : Int32) (w91 : Nat → Int32) (w92 : Nat → Int32) (w93 : Int32) (w94 : Int32) (w95 : Int32) (w96 : Int32) (w97 : Int64) (w98 : Int32) (w99 : Int32) (w100 : Int32) => (cal1 (fX5_info w83 w84 v_p0_commit_checkpoint v_p0_commit_max w86 v_p0_log_oldest v_p0_log_current w90 w91 w98 w100 1) (fun r101 => (cal1 (fX5_info w83 w84 v_p0_commit_checkpoint v_p0_commit_max w86 v_p0_log_oldest v_p0_log_current w90 w91 w98 w100 0) (fun r103 => (jp (some ((-9), w79, w80, w81, w82, w83, w84, w85, w86, w87, w88, w89, w90, w44, w91, w92, w93, w94, w95, w96, w97, w98, w99, w100)) (fun J359 => (if r101 = r103 then (if r101 < r9 then J359 else (if r11 < r101 then J359 else (cal1 (fX5_info w83 w84 v_p0_commit_checkpoint v_p0_commit_max w86 v_p0_log_oldest v_p0_log_current w90 w91 w98 w100 6) (fun r105 => (cal1 (fX5_info w83 w84 v_p0_commit_checkpoint v_p0_commit_max w86 v_p0_log_oldest v_p0_log_current w90 w91 w98 w100 5) (fun r107 => (if r105 = r107 then (cal1 (fX5_info w83 w84 v_p0_commit_checkpoint v_p0_commit_max w86 v_p0_log_oldest v_p0_log_current w90 w91 w98 w100 2) (fun r109 => (if r109 = r101 then (cal1 (fX5_info w83 w84 v_p0_commit_checkpoint v_p0_commit_max w86 v_p0_log_oldest v_p0_log_current w90 w91 w98 w100 10) (fun r111 => (cal1 (fL_documents w79 w80 w81 w86 w87 w100) (fun r113 => (if r111 = r113 then (jp (fun (k115 : Int32) => (some (k115, w79, w80, w81, w82, w83, w84, w85, w86, w87, w88, w89, w90, w44, w91, w92, w93, w94, w95, w96, w97, w98, w99, w100))) (fun J404 => (jp (J404 (-9)) (fun J397 => (jp (jp (J404 r101) (fun J402 => (if z20 = 1 then (if z8 ≤ 0 then J402 else (if r101 = r11 then J397 else J402)) else J402))) (fun J380 => (if z8 = z5 then (if z20 = 1 then J380 else (if r101 = r11 then J380 else J397)) else J380))))))) else J359))))) else J359))) else J359))))))) else J359)))))))) (fun J291 => (if r77 = 1 then (cal23 (fX5_recover w55 w56 w57 w58 w59 w60 w61 v_p0_commit_documents_kinds v_p0_commit_documents_seqs v_p0_commit_documents_versions v_p0_commit_documents_sources v_p0_commit_checkpoint v_p0_commit_max w62 w63 w64 w65 v_p0_log_oldest v_p0_log_current w66 w44 w67 w68 w69 w70 w71 w72 w73 w74 w75 w76 (-1)) (fun r116 u117 u118 u119 u120 u121 u122 u123 u124 u125 u126 u127 u128 u129 u130 u131 u132 u133 u134 u135 u136 u137 u138 => (if 0 ≤ r116 then (J291 u117 u118 u119 u120 u121 u122 u123 u124 u125 u126 u127 u128 u129 u130 u131 u132 u133 u134 u135 u136 u137 u138) else (some ((-9), u117, u118, u119, u120, u121, u122, u123, u124, u125, u126, u127, u128, w44, u129, u130, u131, u132, u133, u134, u135, u136, u137, u138))))) else (J291 w55 w56 w57 w58 w59 w60 w61 w62 w63 w64 w65 w66 w67 w68 w69 w70 w71 w72 w73 w74 w75 w76))))))) (fun J270 => (if z20 = 3 then (bnd (x1 >>> (10 &&& 31) : Int32) (fun z140 => (bnd (z140 &&& 3 : Int32) (fun z141 => (cal23 (fX5_recover w32 w33 w34 w35 w36 w37 w38 v_p0_commit_documents_kinds v_p0_commit_documents_seqs v_p0_commit_documents_versions v_p0_commit_documents_sources v_p0_commit_checkpoint v_p0_commit_max w39 w40 w41 w42 v_p0_log_oldest v_p0_log_current w43 w44 w45 w46 w47 w48 w49 w50 w51 w52 w53 w54 z141) (fun r142 u143 u144 u145 u146 u147 u148 u149 u150 u151 u152 u153 u154 u155 u156 u157 u158 u159 u160 u161 u162 u163 u164 => (jp (fun (w166 : Nat → Int32) (w167 : Nat → Int32) (w168 : Nat → Int32) (w169 : Nat → Int64) (w170 : Int32) (w171 : Int32) (w172 : Int64) (w173 : Nat → Int32) (w174 : Nat → Int32) (w175 : Nat → Int32) (w176 : Nat → Int64) (w177 : Int32) (w178 : Nat → Int32) (w179 : Nat → Int32) (w180 : Int32) (w181 : Int32) (w182 : Int32) (w183 : Int32) (w184 : Int64) (w185 : Int32) (w186 : Int32) (w187 : Int32) => (some ((-9), w166, w167, w168, w169, w170, w171, w172, w173, w174, w175, w176, w177, w44, w178, w179, w180, w181, w182, w183, w184, w185, w186, w187))) (fun J267 => (if z141 < r142 then (J267 u143 u144 u145 u146 u147 u148 u149 u150 u151 u152 u153 u154 u155 u156 u157 u158 u159 u160 u161 u162 u163 u164) else (if 0 ≤ r142 then (J270 u143 u144 u145 u146 u147 u148 u149 u150 u151 u152 u153 u154 u155 u156 u157 u158 u159 u160 u161 u162 u163 u164) else (if r142 = (-4) then (cal23 (fX5_recover u143 u144 u145 u146 u147 u148 u149 v_p0_commit_documents_kinds v_p0_commit_documents_seqs v_p0_commit_documents_versions v_p0_commit_documents_sources v_p0_commit_checkpoint v_p0_commit_max u150 u151 u152 u153 v_p0_log_oldest v_p0_log_current u154 w44 u155 u156 u157 u158 u159 u160 u161 u162 u163 u164 z141) (fun r188 u189 u190 u191 u192 u193 u194 u195 u196 u197 u198 u199 u200 u201 u202 u203 u204 u205 u206 u207 u208 u209 u210 => (if r188 = (-4) then (J270 u189 u190 u191 u192 u193 u194 u195 u196 u197 u198 u199 u200 u201 u202 u203 u204 u205 u206 u207 u208 u209 u210) else (J267 u189 u190 u191 u192 u193 u194 u195 u196 u197 u198 u199 u200 u201 u202 u203 u204 u205 u206 u207 u208 u209 u210)))) else (J267 u143 u144 u145 u146 u147 u148 u149 u150 u151 u152 u153 u154 u155 u156 u157 u158 u159 u160 u161 u162 u163 u164)))))))))))) else (J270 w32 w33 w34 w35 w36 w37 w38 w39 w40 w41 w42 w43 w45 w46 w47 w48 w49 w50 w51 w52 w53 w54))))
def crT (v_p0_commit_checkpoint : Int32) (v_p0_commit_max : Int32) (v_p0_log_oldest : Int32) (v_p0_log_current : Int32) (r9 : Int32) (r11 : Int32) (z20 : Int32) (z8 : Int32) (z5 : Int32) (v_p0_commit_documents_kinds : Nat → Int32) (v_p0_commit_documents_seqs : Nat → Int32) (v_p0_commit_documents_versions : Nat → Int32) (v_p0_commit_documents_sources : Nat → Int64) (x1 : Int32) (r29 : Int32) (v_p0_live_documents_kinds : Nat → Int32) (v_p0_live_documents_seqs : Nat → Int32) (v_p0_live_documents_versions : Nat → Int32) (v_p0_live_documents_sources : Nat → Int64) (v_p0_live_checkpoint : Int32) (v_p0_live_max : Int32) (v_p0_live_ahead : Int64) (v_p0_refreshed_kinds : Nat → Int32) (v_p0_refreshed_seqs : Nat → Int32) (v_p0_refreshed_versions : Nat → Int32) (v_p0_refreshed_sources : Nat → Int64) (v_p0_log_synced : Int32) (u25 : Nat → Int32) (v_p0_log_greatestSeqs : Nat → Int32) (v_p0_operation_kind : Int32) (v_p0_operation_seq : Int32) (v_p0_operation_id : Int32) (v_p0_operation_version : Int32) (v_p0_operation_source : Int64) (v_p0_persisted : Int32) (v_p0_replayed : Int32) (u26 : Int32) (z18 : Int32) (z23 : Int32) (w31 : Nat → Int32) : Option ((Int32) × (Nat → Int32) × (Nat → Int32) × (Nat → Int32) × (Nat → Int64) × (Int32) × (Int32) × (Int64) × (Nat → Int32) × (Nat → Int32) × (Nat → Int32) × (Nat → Int64) × (Int32) × (Nat → Int32) × (Nat → Int32) × (Nat → Int32) × (Int32) × (Int32) × (Int32) × (Int32) × (Int64) × (Int32) × (Int32) × (Int32)) :=
  (jp (fun (w32 : Nat → Int32) (w33 : Nat → Int32) (w34 : Nat → Int32) (w35 : Nat → Int64) (w36 : Int32) (w37 : Int32) (w38 : Int64) (w39 : Nat → Int32) (w40 : Nat → Int32) (w41 : Nat → Int32) (w42 : Nat → Int64) (w43 : Int32) (w44 : Nat → Int32) (w45 : Nat → Int32) (w46 : Nat → Int32) (w47 : Int32) (w48 : Int32) (w49 : Int32) (w50 : Int32) (w51 : Int64) (w52 : Int32) (w53 : Int32) (w54 : Int32) => (jp (fun (w55 : Nat → Int32) (w56 : Nat → Int32) (w57 : Nat → Int32) (w58 : Nat → Int64) (w59 : Int32) (w60 : Int32) (w61 : Int64) (w62 : Nat → Int32) (w63 : Nat → Int32) (w64 : Nat → Int32) (w65 : Nat → Int64) (w66 : Int32) (w67 : Nat → Int32) (w68 : Nat → Int32) (w69 : Int32) (w70 : Int32) (w71 : Int32) (w72 : Int32) (w73 : Int64) (w74 : Int32) (w75 : Int32) (w76 : Int32) => (cal1 (fX5_info w59 w60 v_p0_commit_checkpoint v_p0_commit_max w62 v_p0_log_oldest v_p0_log_current w66 w67 w74 w76 7) (fun r77 => (jp (fun (w79 : Nat → Int32) (w80 : Nat → Int32) (w81 : Nat → Int32) (w82 : Nat → Int64) (w83 : Int32) (w84 : Int32) (w85 : Int64) (w86 : Nat → Int32) (w87 : Nat → Int32) (w88 : Nat → Int32) (w89 : Nat → Int64) (w90 : Int32) (w91 : Nat → Int32) (w92 : Nat → Int32) (w93 : Int32) (w94 : Int32) (w95 : Int32) (w96 : Int32) (w97 : Int64) (w98 : Int32) (w99 : Int32) (w100 : Int32) => (cal1 (fX5_info w83 w84 v_p0_commit_checkpoint v_p0_commit_max w86 v_p0_log_oldest v_p0_log_current w90 w91 w98 w100 1) (fun r101 => (cal1 (fX5_info w83 w84 v_p0_commit_checkpoint v_p0_commit_max w86 v_p0_log_oldest v_p0_log_current w90 w91 w98 w100 0) (fun r103 => (jp (some ((-9), w79, w80, w81, w82, w83, w84, w85, w86, w87, w88, w89, w90, w44, w91, w92, w93, w94, w95, w96, w97, w98, w99, w100)) (fun J359 => (if r101 = r103 then (if r101 < r9 then J359 else (if r11 < r101 then J359 else (cal1 (fX5_info w83 w84 v_p0_commit_checkpoint v_p0_commit_max w86 v_p0_log_oldest v_p0_log_current w90 w91 w98 w100 6) (fun r105 => (cal1 (fX5_info w83 w84 v_p0_commit_checkpoint v_p0_commit_max w86 v_p0_log_oldest v_p0_log_current w90 w91 w98 w100 5) (fun r107 => (if r105 = r107 then (cal1 (fX5_info w83 w84 v_p0_commit_checkpoint v_p0_commit_max w86 v_p0_log_oldest v_p0_log_current w90 w91 w98 w100 2) (fun r109 => (if r109 = r101 then (cal1 (fX5_info w83 w84 v_p0_commit_checkpoint v_p0_commit_max w86 v_p0_log_oldest v_p0_log_current w90 w91 w98 w100 10) (fun r111 => (cal1 (fL_documents w79 w80 w81 w86 w87 w100) (fun r113 => (if r111 = r113 then (jp (fun (k115 : Int32) => (some (k115, w79, w80, w81, w82, w83, w84, w85, w86, w87, w88, w89, w90, w44, w91, w92, w93, w94, w95, w96, w97, w98, w99, w100))) (fun J404 => (jp (J404 (-9)) (fun J397 => (jp (jp (J404 r101) (fun J402 => (if z20 = 1 then (if z8 ≤ 0 then J402 else (if r101 = r11 then J397 else J402)) else J402))) (fun J380 => (if z8 = z5 then (if z20 = 1 then J380 else (if r101 = r11 then J380 else J397)) else J380))))))) else J359))))) else J359))) else J359))))))) else J359)))))))) (fun J291 => (if r77 = 1 then (cal23 (fX5_recover w55 w56 w57 w58 w59 w60 w61 v_p0_commit_documents_kinds v_p0_commit_documents_seqs v_p0_commit_documents_versions v_p0_commit_documents_sources v_p0_commit_checkpoint v_p0_commit_max w62 w63 w64 w65 v_p0_log_oldest v_p0_log_current w66 w44 w67 w68 w69 w70 w71 w72 w73 w74 w75 w76 (-1)) (fun r116 u117 u118 u119 u120 u121 u122 u123 u124 u125 u126 u127 u128 u129 u130 u131 u132 u133 u134 u135 u136 u137 u138 => (if 0 ≤ r116 then (J291 u117 u118 u119 u120 u121 u122 u123 u124 u125 u126 u127 u128 u129 u130 u131 u132 u133 u134 u135 u136 u137 u138) else (some ((-9), u117, u118, u119, u120, u121, u122, u123, u124, u125, u126, u127, u128, w44, u129, u130, u131, u132, u133, u134, u135, u136, u137, u138))))) else (J291 w55 w56 w57 w58 w59 w60 w61 w62 w63 w64 w65 w66 w67 w68 w69 w70 w71 w72 w73 w74 w75 w76))))))) (fun J270 => (if z20 = 3 then (bnd (x1 >>> (10 &&& 31) : Int32) (fun z140 => (bnd (z140 &&& 3 : Int32) (fun z141 => (cal23 (fX5_recover w32 w33 w34 w35 w36 w37 w38 v_p0_commit_documents_kinds v_p0_commit_documents_seqs v_p0_commit_documents_versions v_p0_commit_documents_sources v_p0_commit_checkpoint v_p0_commit_max w39 w40 w41 w42 v_p0_log_oldest v_p0_log_current w43 w44 w45 w46 w47 w48 w49 w50 w51 w52 w53 w54 z141) (fun r142 u143 u144 u145 u146 u147 u148 u149 u150 u151 u152 u153 u154 u155 u156 u157 u158 u159 u160 u161 u162 u163 u164 => (jp (fun (w166 : Nat → Int32) (w167 : Nat → Int32) (w168 : Nat → Int32) (w169 : Nat → Int64) (w170 : Int32) (w171 : Int32) (w172 : Int64) (w173 : Nat → Int32) (w174 : Nat → Int32) (w175 : Nat → Int32) (w176 : Nat → Int64) (w177 : Int32) (w178 : Nat → Int32) (w179 : Nat → Int32) (w180 : Int32) (w181 : Int32) (w182 : Int32) (w183 : Int32) (w184 : Int64) (w185 : Int32) (w186 : Int32) (w187 : Int32) => (some ((-9), w166, w167, w168, w169, w170, w171, w172, w173, w174, w175, w176, w177, w44, w178, w179, w180, w181, w182, w183, w184, w185, w186, w187))) (fun J267 => (if z141 < r142 then (J267 u143 u144 u145 u146 u147 u148 u149 u150 u151 u152 u153 u154 u155 u156 u157 u158 u159 u160 u161 u162 u163 u164) else (if 0 ≤ r142 then (J270 u143 u144 u145 u146 u147 u148 u149 u150 u151 u152 u153 u154 u155 u156 u157 u158 u159 u160 u161 u162 u163 u164) else (if r142 = (-4) then (cal23 (fX5_recover u143 u144 u145 u146 u147 u148 u149 v_p0_commit_documents_kinds v_p0_commit_documents_seqs v_p0_commit_documents_versions v_p0_commit_documents_sources v_p0_commit_checkpoint v_p0_commit_max u150 u151 u152 u153 v_p0_log_oldest v_p0_log_current u154 w44 u155 u156 u157 u158 u159 u160 u161 u162 u163 u164 z141) (fun r188 u189 u190 u191 u192 u193 u194 u195 u196 u197 u198 u199 u200 u201 u202 u203 u204 u205 u206 u207 u208 u209 u210 => (if r188 = (-4) then (J270 u189 u190 u191 u192 u193 u194 u195 u196 u197 u198 u199 u200 u201 u202 u203 u204 u205 u206 u207 u208 u209 u210) else (J267 u189 u190 u191 u192 u193 u194 u195 u196 u197 u198 u199 u200 u201 u202 u203 u204 u205 u206 u207 u208 u209 u210)))) else (J267 u143 u144 u145 u146 u147 u148 u149 u150 u151 u152 u153 u154 u155 u156 u157 u158 u159 u160 u161 u162 u163 u164)))))))))))) else (J270 w32 w33 w34 w35 w36 w37 w38 w39 w40 w41 w42 w43 w45 w46 w47 w48 w49 w50 w51 w52 w53 w54))))) (fun J215 => (if z20 = 2 then (if r29 ≤ 0 then (J215 v_p0_live_documents_kinds v_p0_live_documents_seqs v_p0_live_documents_versions v_p0_live_documents_sources v_p0_live_checkpoint v_p0_live_max v_p0_live_ahead v_p0_refreshed_kinds v_p0_refreshed_seqs v_p0_refreshed_versions v_p0_refreshed_sources v_p0_log_synced w31 u25 v_p0_log_greatestSeqs v_p0_operation_kind v_p0_operation_seq v_p0_operation_id v_p0_operation_version v_p0_operation_source v_p0_persisted v_p0_replayed u26) else (bnd (x1 >>> (10 &&& 31) : Int32) (fun z212 => (bnd (z212 &&& 255 : Int32) (fun z213 => (rmk z213 r29 (fun z214 => (cal2 (fX5_flip v_p0_log_oldest v_p0_log_current w31 u25 z18 z214 z23) (fun r215 u216 => (jp (fun (w218 : Nat → Int32) (w219 : Nat → Int32) (w220 : Nat → Int32) (w221 : Nat → Int64) (w222 : Int32) (w223 : Int32) (w224 : Int64) (w225 : Nat → Int32) (w226 : Nat → Int32) (w227 : Nat → Int32) (w228 : Nat → Int64) (w229 : Int32) (w230 : Nat → Int32) (w231 : Nat → Int32) (w232 : Nat → Int32) (w233 : Int32) (w234 : Int32) (w235 : Int32) (w236 : Int32) (w237 : Int64) (w238 : Int32) (w239 : Int32) (w240 : Int32) => (some ((-9), w218, w219, w220, w221, w222, w223, w224, w225, w226, w227, w228, w229, w230, w231, w232, w233, w234, w235, w236, w237, w238, w239, w240))) (fun J212 => (if r215 < 0 then (J212 v_p0_live_documents_kinds v_p0_live_documents_seqs v_p0_live_documents_versions v_p0_live_documents_sources v_p0_live_checkpoint v_p0_live_max v_p0_live_ahead v_p0_refreshed_kinds v_p0_refreshed_seqs v_p0_refreshed_versions v_p0_refreshed_sources v_p0_log_synced u216 u25 v_p0_log_greatestSeqs v_p0_operation_kind v_p0_operation_seq v_p0_operation_id v_p0_operation_version v_p0_operation_source v_p0_persisted v_p0_replayed u26) else (cal23 (fX5_recover v_p0_live_documents_kinds v_p0_live_documents_seqs v_p0_live_documents_versions v_p0_live_documents_sources v_p0_live_checkpoint v_p0_live_max v_p0_live_ahead v_p0_commit_documents_kinds v_p0_commit_documents_seqs v_p0_commit_documents_versions v_p0_commit_documents_sources v_p0_commit_checkpoint v_p0_commit_max v_p0_refreshed_kinds v_p0_refreshed_seqs v_p0_refreshed_versions v_p0_refreshed_sources v_p0_log_oldest v_p0_log_current v_p0_log_synced u216 u25 v_p0_log_greatestSeqs v_p0_operation_kind v_p0_operation_seq v_p0_operation_id v_p0_operation_version v_p0_operation_source v_p0_persisted v_p0_replayed u26 (-1)) (fun r241 u242 u243 u244 u245 u246 u247 u248 u249 u250 u251 u252 u253 u254 u255 u256 u257 u258 u259 u260 u261 u262 u263 => (if r241 = (-5) then (cal1 (fX5_info u246 u247 v_p0_commit_checkpoint v_p0_commit_max u249 v_p0_log_oldest v_p0_log_current u253 u254 u261 u263 7) (fun r265 => (if r265 = 1 then (cal23 (fX5_recover u242 u243 u244 u245 u246 u247 u248 v_p0_commit_documents_kinds v_p0_commit_documents_seqs v_p0_commit_documents_versions v_p0_commit_documents_sources v_p0_commit_checkpoint v_p0_commit_max u249 u250 u251 u252 v_p0_log_oldest v_p0_log_current u253 u216 u254 u255 u256 u257 u258 u259 u260 u261 u262 u263 1000) (fun r267 u268 u269 u270 u271 u272 u273 u274 u275 u276 u277 u278 u279 u280 u281 u282 u283 u284 u285 u286 u287 u288 u289 => (if r267 = (-5) then (cal2 (fX5_flip v_p0_log_oldest v_p0_log_current u216 u280 z18 z214 z23) (fun r291 u292 => (if 0 ≤ r291 then (J215 u268 u269 u270 u271 u272 u273 u274 u275 u276 u277 u278 u279 u292 u280 u281 u282 u283 u284 u285 u286 u287 u288 u289) else (J212 u268 u269 u270 u271 u272 u273 u274 u275 u276 u277 u278 u279 u292 u280 u281 u282 u283 u284 u285 u286 u287 u288 u289)))) else (J212 u268 u269 u270 u271 u272 u273 u274 u275 u276 u277 u278 u279 u216 u280 u281 u282 u283 u284 u285 u286 u287 u288 u289)))) else (J212 u242 u243 u244 u245 u246 u247 u248 u249 u250 u251 u252 u253 u216 u254 u255 u256 u257 u258 u259 u260 u261 u262 u263)))) else (J212 u242 u243 u244 u245 u246 u247 u248 u249 u250 u251 u252 u253 u216 u254 u255 u256 u257 u258 u259 u260 u261 u262 u263)))))))))))))))) else (J215 v_p0_live_documents_kinds v_p0_live_documents_seqs v_p0_live_documents_versions v_p0_live_documents_sources v_p0_live_checkpoint v_p0_live_max v_p0_live_ahead v_p0_refreshed_kinds v_p0_refreshed_seqs v_p0_refreshed_versions v_p0_refreshed_sources v_p0_log_synced w31 u25 v_p0_log_greatestSeqs v_p0_operation_kind v_p0_operation_seq v_p0_operation_id v_p0_operation_version v_p0_operation_source v_p0_persisted v_p0_replayed u26))))
theorem jp_P {α β : Type} {P : Option β → Prop} {k : α} {f : α → Option β} (h : ∀ J, J = k → P (f J)) : P (jp k f) := h k rfl
theorem info7u (c mx cc cm : Int32) (rk : Nat → Int32) (old cur sy : Int32) (l : Nat → Int32) (per : Int32) : fX5_info c mx cc cm rk old cur sy l per 0 7 = some 0 := info7 c mx cc cm rk old cur sy l per false
theorem info7d (c mx cc cm : Int32) (rk : Nat → Int32) (old cur sy : Int32) (l : Nat → Int32) (per : Int32) : fX5_info c mx cc cm rk old cur sy l per 1 7 = some 1 := info7 c mx cc cm rk old cur sy l per true
theorem find_rec (e : Nat → Int32) {Sq x : Nat} : ∀ (n : Nat), Sq ≤ n → x < PS e n - PS e Sq → ∃ j, Sq ≤ j ∧ j < n ∧ PS e j - PS e Sq ≤ x ∧ x < PS e (j + 1) - PS e Sq := by
  intro n
  induction n with
  | zero => intro h hx; obtain rfl : Sq = 0 := by omega
            omega
  | succ n ih =>
    intro h hx
    by_cases e1 : Sq = n + 1
    · subst e1; omega
    · by_cases h2 : x < PS e n - PS e Sq
      · obtain ⟨j, a, b, c, f⟩ := ih (by omega) h2
        exact ⟨j, a, by omega, c, f⟩
      · exact ⟨n, by omega, by omega, by omega, hx⟩
/-- the record of an operation at its place, as readX_ok and readX_bad want it -/
theorem rec_bytes {b e V : Nat → Int32} {P j ver : Nat} (hr : RecB b P e V j) (hv : V j = nI ver) : ∀ t, t < szC (e j) + 5 → b (P + t) = rcb (kdC (e j)) (szC (e j)) (nI j) (nI (idN (e j))) (nI ver) (srcC (e j)) t := by
  intro t ht
  rw [hr t ht]
  unfold opb
  rw [(id_C (e j)).1, hv]
theorem rec_by {b e V : Nat → Int32} {P j : Nat} (hr : RecB b P e V j) : ∀ t, t < rl (e j) → By (b (P + t)) := by
  intro t ht
  rw [hr t ht]
  exact recd_by (kz_C (e j)) (Nat.zero_le _) (by have : rl (e j) = szC (e j) + 5 := rfl; omega)
theorem gen_by {b e V : Nat → Int32} {P Sq n : Nat} (hS : Sq ≤ n) (hr : ∀ j, Sq ≤ j → j < n → RecB b (P + (PS e j - PS e Sq)) e V j) {x : Nat} (hx : x < PS e n - PS e Sq) : By (b (P + x)) := by
  obtain ⟨j, h1, h2, h3, h4⟩ := find_rec e n hS hx
  have h5 := PS_mono e h1
  rw [PS_s] at h4
  have := rec_by (hr j h1 h2) (x - (PS e j - PS e Sq)) (by omega)
  rw [show P + (PS e j - PS e Sq) + (x - (PS e j - PS e Sq)) = P + x by omega] at this
  exact this
/-- the log, cut -/
theorem DNR_cut {e V b l : Nat → Int32} {n0 a q n p L B : Nat} {S : Nat → Nat} (hLG : LG b l e V a q S) (hSa : S a = n0) (hSq : S (q + 1) = n) (hV : VB V n) (hn : n ≤ 1000) (hq : q ≤ 1000) (hp1 : S q ≤ p) (hp2 : p ≤ n) (h1 : PS e p - PS e (S q) ≤ L) (h2 : L ≤ PS e n - PS e (S q)) :
    ∃ M, p ≤ M ∧ M ≤ n ∧ (L = PS e n - PS e (S q) → M = n) ∧ DNR e V n0 a q M L S b (upd l (q % 4) (nI L)) := by
  obtain ⟨haq, hqa, hg⟩ := hLG
  obtain ⟨c1, c2, c3, c4⟩ := hg q haq (Nat.le_refl _)
  rw [hSq] at c1 c2 c3 c4
  have hgen : ∀ g, a ≤ g → g < q → S g ≤ S (g + 1) ∧ upd l (q % 4) (nI L) (g % 4) = nI (PS e (S (g + 1)) - PS e (S g)) ∧ PS e (S (g + 1)) - PS e (S g) ≤ 240 ∧ ∀ j, S g ≤ j → j < S (g + 1) → RecB b (240 * (g % 4) + (PS e j - PS e (S g))) e V j := by
    intro g g1 g2
    obtain ⟨d1, d2, d3, d4⟩ := hg g g1 (by omega)
    exact ⟨d1, by rw [upd_o _ _ (by omega)]; exact d2, d3, d4⟩
  by_cases hL : L = PS e n - PS e (S q)
  · exact ⟨n, hp2, Nat.le_refl _, fun _ => rfl, haq, hqa, hq, hn, hV, hSa, hgen, c1, upd_s _ _ _, by omega, c4, by omega, Or.inl hL.symm⟩
  · obtain ⟨j, h3, h4, h5, h6⟩ := find_rec e (Sq := S q) (x := L) n c1 (by omega)
    have hpj : p ≤ j := by
      by_cases h : p ≤ j
      · exact h
      · have h7 := PS_mono e (show j + 1 ≤ p by omega)
        have h8 := PS_mono e hp1
        have h9 := PS_mono e h3
        omega
    refine ⟨j, hpj, by omega, fun h => absurd h hL, haq, hqa, hq, by omega, VB_le hV (by omega), hSa, hgen, h3, upd_s _ _ _, by omega, fun j' a1 a2 => c4 j' a1 (by omega), h5, ?_⟩
    by_cases h7 : PS e j - PS e (S q) = L
    · exact Or.inl h7
    · refine Or.inr ⟨by omega, fun o1 o2 o3 o4 o5 => ?_⟩
      obtain ⟨ver, hv1, hv2, hv3⟩ := hV j (by omega)
      have hr := rec_bytes (c4 j h3 (by omega)) hv3
      rw [PS_s] at h6
      have h9 := PS_mono e h3
      have hrl : rl (e j) = szC (e j) + 5 := rfl
      refine readX_bad (b := b) (b' := b) (by omega) (upd_s _ _ _) (by omega) (by omega) (kz_C (e j)) (kd_3 (e j)) hr (fun j' hj' => ?_) (Or.inl ⟨by omega, fun t _ => rfl⟩) o1 o2 o3 o4 o5
      rw [Nat.add_assoc]
      exact gen_by c1 c4 (by omega)
/-- the log, cut, and a byte of the current generation is another -/
theorem DNR_alt {e V b l : Nat → Int32} {n0 a q n x L B : Nat} {S : Nat → Nat} {w : Int32} (hLG : LG b l e V a q S) (hSa : S a = n0) (hSq : S (q + 1) = n) (hV : VB V n) (hn : n ≤ 1000) (hq : q ≤ 1000) (hx : x < L) (h2 : L ≤ PS e n - PS e (S q)) (hw : By w) (hne : w ≠ b (240 * (q % 4) + x)) :
    ∃ M, S q ≤ M ∧ M < n ∧ PS e M - PS e (S q) ≤ x ∧ x < PS e (M + 1) - PS e (S q) ∧ PS e M - PS e (S q) < L ∧ DNR e V n0 a q M L S (upd b (240 * (q % 4) + x) w) (upd l (q % 4) (nI L)) := by
  obtain ⟨haq, hqa, hg⟩ := hLG
  obtain ⟨c1, c2, c3, c4⟩ := hg q haq (Nat.le_refl _)
  rw [hSq] at c1 c2 c3 c4
  obtain ⟨j, h3, h4, h5, h6⟩ := find_rec e (Sq := S q) (x := x) n c1 (by omega)
  have h9 := PS_mono e h3
  have hrl : rl (e j) = szC (e j) + 5 := rfl
  have h6' := h6
  rw [PS_s] at h6'
  have hgen : ∀ g, a ≤ g → g < q → S g ≤ S (g + 1) ∧ upd l (q % 4) (nI L) (g % 4) = nI (PS e (S (g + 1)) - PS e (S g)) ∧ PS e (S (g + 1)) - PS e (S g) ≤ 240 ∧ ∀ j, S g ≤ j → j < S (g + 1) → RecB (upd b (240 * (q % 4) + x) w) (240 * (g % 4) + (PS e j - PS e (S g))) e V j := by
    intro g g1 g2
    obtain ⟨d1, d2, d3, d4⟩ := hg g g1 (by omega)
    refine ⟨d1, by rw [upd_o _ _ (by omega)]; exact d2, d3, fun j' j1 j2 t ht => ?_⟩
    have := PS_lt e j2
    have := PS_mono e j1
    rw [upd_o _ _ (by omega)]
    exact d4 j' j1 j2 t ht
  refine ⟨j, h3, h4, h5, h6, by omega, haq, hqa, hq, by omega, VB_le hV (by omega), hSa, hgen, h3, upd_s _ _ _, by omega, fun j' a1 a2 t ht => ?_, by omega, Or.inr ⟨by omega, fun o1 o2 o3 o4 o5 => ?_⟩⟩
  · have := PS_lt e a2
    have := PS_mono e a1
    rw [upd_o _ _ (by omega)]
    exact c4 j' a1 (by omega) t ht
  · obtain ⟨ver, hv1, hv2, hv3⟩ := hV j (by omega)
    have hr := rec_bytes (c4 j h3 (by omega)) hv3
    refine readX_bad (b := b) (by omega) (upd_s _ _ _) (by omega) (by omega) (kz_C (e j)) (kd_3 (e j)) hr (fun j' hj' => ?_) (Or.inr ⟨x - (PS e j - PS e (S q)), by omega, by omega, ?_, fun j' j1 j2 => upd_o _ _ (by omega)⟩) o1 o2 o3 o4 o5
    · rw [Nat.add_assoc]
      by_cases e1 : 240 * (q % 4) + (PS e j - PS e (S q) + j') = 240 * (q % 4) + x
      · rw [e1, upd_s]; exact hw
      · rw [upd_o _ _ e1]; exact gen_by c1 c4 (by omega)
    · rw [show 240 * (q % 4) + (PS e j - PS e (S q)) + (x - (PS e j - PS e (S q))) = 240 * (q % 4) + x by omega, upd_s]
      exact hne
theorem DNR_UP {e V b l gr : Nat → Int32} {n0 a q M L B P0 : Nat} {S : Nat → Nat} (h : DNR e V n0 a q M L S b l) (hP0 : P0 ≤ M) (hMB : M ≤ B) (hqB : q ≤ B) (hB : B ≤ 1000) {ck cs cv : Nat → Int32} {co : Nat → Int64} (hC : DR e V n0 ck cs cv co) {k s v : Nat → Int32} {o : Nat → Int64} (hD : DR e V M k s v o) (hG : GRl gr a (q + 1) M) :
    UPR e M B P0 k s v o (mI M) (mI M) 0 ck cs cv co (mI n0) (mI n0) (nI a) (nI q) (nI (PS e M - PS e (S q))) b (upd l (q % 4) (nI (PS e M - PS e (S q)))) gr (mI M) := by
  obtain ⟨haq, hqa, hq, hM, hV, hSa, hgen, hSq, hl, hL, hrec, hpM, hend⟩ := h
  refine ⟨V, n0, M, a, q, fun x => if x = q + 1 then M else S x, ⟨rfl, rfl, rfl, hD⟩, ⟨hC, rfl, rfl⟩, ⟨hV, hMB, hB⟩, ⟨rfl, rfl, hqB, ⟨haq, hqa, fun g g1 g2 => ?_⟩, (if_neg (by omega)).trans hSa, if_pos rfl, fun i i1 i2 => hG i i1 (by omega)⟩, ?_⟩
  · by_cases eg : g = q
    · subst eg
      have e1 : (fun x => if x = g + 1 then M else S x) (g + 1) = M := if_pos rfl
      have e2 : (fun x => if x = g + 1 then M else S x) g = S g := if_neg (by omega)
      rw [e1, e2]
      exact ⟨hSq, upd_s _ _ _, by omega, hrec⟩
    · have e1 : (fun x => if x = q + 1 then M else S x) (g + 1) = S (g + 1) := if_neg (by omega)
      have e2 : (fun x => if x = q + 1 then M else S x) g = S g := if_neg (by omega)
      rw [e1, e2]
      obtain ⟨d1, d2, d3, d4⟩ := hgen g g1 (by omega)
      exact ⟨d1, by rw [upd_o _ _ (by omega)]; exact d2, d3, d4⟩
  · dsimp only
    rw [if_neg (by omega)]
    exact ⟨hSq, Nat.le_refl _, rfl, rfl, hP0⟩
def CG (e : Nat → Int32) (n B Pm : Nat) (ck cs cv : Nat → Int32) (co : Nat → Int64) (cc cm old cur : Int32) (X : Option ((Int32) × (Nat → Int32) × (Nat → Int32) × (Nat → Int32) × (Nat → Int64) × (Int32) × (Int32) × (Int64) × (Nat → Int32) × (Nat → Int32) × (Nat → Int32) × (Nat → Int64) × (Int32) × (Nat → Int32) × (Nat → Int32) × (Nat → Int32) × (Int32) × (Int32) × (Int32) × (Int32) × (Int64) × (Int32) × (Int32) × (Int32))) : Prop :=
  ∃ (M : Nat) (k' : Nat → Int32) (s' : Nat → Int32) (v' : Nat → Int32) (o' : Nat → Int64) (c' : Int32) (mx' : Int32) (ah' : Int64) (rk' : Nat → Int32) (rs' : Nat → Int32) (rv' : Nat → Int32) (ro' : Nat → Int64) (sy' : Int32) (b' : Nat → Int32) (l' : Nat → Int32) (g' : Nat → Int32) (p1' : Int32) (p2' : Int32) (p3' : Int32) (p4' : Int32) (p5' : Int64) (per' : Int32) (rp' : Int32), X = some (mI M, k', s', v', o', c', mx', ah', rk', rs', rv', ro', sy', b', l', g', p1', p2', p3', p4', p5', per', rp', 0) ∧ UPR e M B M k' s' v' o' c' mx' ah' ck cs cv co cc cm old cur sy' b' l' g' per' ∧ VIS k' o' rk' ro' ∧ M ≤ n ∧ Pm ≤ M
theorem CG_le {e : Nat → Int32} {n B p P0 : Nat} {ck cs cv : Nat → Int32} {co : Nat → Int64} {cc cm old cur : Int32} {X : Option ((Int32) × (Nat → Int32) × (Nat → Int32) × (Nat → Int32) × (Nat → Int64) × (Int32) × (Int32) × (Int64) × (Nat → Int32) × (Nat → Int32) × (Nat → Int32) × (Nat → Int64) × (Int32) × (Nat → Int32) × (Nat → Int32) × (Nat → Int32) × (Int32) × (Int32) × (Int32) × (Int32) × (Int64) × (Int32) × (Int32) × (Int32))} (h : CG e n B p ck cs cv co cc cm old cur X) (hp : P0 ≤ p) : CG e n B P0 ck cs cv co cc cm old cur X := by
  obtain ⟨M, k', s', v', o', c', mx', ah', rk', rs', rv', ro', sy', b', l', g', p1', p2', p3', p4', p5', per', rp', h1, h2, h3, h4, h5⟩ := h
  exact ⟨M, k', s', v', o', c', mx', ah', rk', rs', rv', ro', sy', b', l', g', p1', p2', p3', p4', p5', per', rp', h1, h2, h3, h4, Nat.le_trans hp h5⟩
/-- the last checks -/
theorem crF_ok {e : Nat → Int32} {M n p q x B : Nat} {ck cs cv : Nat → Int32} {co : Nat → Int64} {cc cm old cur z20 z8 z5 : Int32} {k : Nat → Int32} {s : Nat → Int32} {v : Nat → Int32} {o : Nat → Int64} {c : Int32} {mx : Int32} {ah : Int64} {rk : Nat → Int32} {rs : Nat → Int32} {rv : Nat → Int32} {ro : Nat → Int64} {sy : Int32} {b : Nat → Int32} {l : Nat → Int32} {g : Nat → Int32} {p1 : Int32} {p2 : Int32} {p3 : Int32} {p4 : Int32} {p5 : Int64} {per : Int32} {rp : Int32} (h : UPR e M B M k s v o c mx ah ck cs cv co cc cm old cur sy b l g per) (hv : VIS k o rk ro) (hper : per = mI M) (hq : cur = nI q) (hq2 : q < 2000) (hsy : sy = nI x) (hl : l (q % 4) = nI x) (hp : p ≤ M) (hn : M ≤ n) (hn2 : n ≤ 1000)
    (H1 : z8 = z5 → ¬ z20 = 1 → M = n) (H2 : z20 = 1 → ¬ z8 ≤ 0 → M < n) :
    CG e n B p ck cs cv co cc cm old cur (crF cc cm old cur b (mI p) (mI n) z20 z8 z5 k s v o c mx ah rk rs rv ro sy l g p1 p2 p3 p4 p5 per rp 0) := by
  obtain ⟨hc, hm, -, -⟩ := UPR_c h
  refine ⟨M, k, s, v, o, c, mx, ah, rk, rs, rv, ro, sy, b, l, g, p1, p2, p3, p4, p5, per, rp, ?_, h, hv, hn, hp⟩
  have hcn : ∀ i, i < 16 → (rk i = 1 ↔ k i = 1) := fun i hi => (hv i hi).1
  rw [crF, info1, cal1_e, info0, cal1_e]
  simp only [jp_e]
  rw [if_pos (by rw [hc, hm]), hc, if_neg (by rw [mm_lt (by omega) (by omega)]; omega), if_neg (by rw [mm_lt (by omega) (by omega)]; omega), info6, cal1_e, hq, info5 _ _ _ _ _ _ _ _ _ _ hq2 hl, cal1_e, if_pos hsy, info2, cal1_e, if_pos hper, info10, cal1_e, docs_ok, cal1_e, if_pos (by rw [cnt1_congr hcn])]
  have hA : ∀ (R Bd : Option ((Int32) × (Nat → Int32) × (Nat → Int32) × (Nat → Int32) × (Nat → Int64) × (Int32) × (Int32) × (Int64) × (Nat → Int32) × (Nat → Int32) × (Nat → Int32) × (Nat → Int64) × (Int32) × (Nat → Int32) × (Nat → Int32) × (Nat → Int32) × (Int32) × (Int32) × (Int32) × (Int32) × (Int64) × (Int32) × (Int32) × (Int32))), (if z20 = 1 then (if z8 ≤ 0 then R else (if mI M = mI n then Bd else R)) else R) = R := by
    intro R Bd
    by_cases h1 : z20 = 1
    · rw [if_pos h1]
      by_cases h2 : z8 ≤ 0
      · rw [if_pos h2]
      · rw [if_neg h2, if_neg (by rw [mm_eq (by omega) (by omega)]; have := H2 h1 h2; omega)]
    · rw [if_neg h1]
  rw [hA]
  by_cases h1 : z8 = z5
  · rw [if_pos h1]
    by_cases h2 : z20 = 1
    · rw [if_pos h2]
    · rw [if_neg h2, if_pos (by rw [mm_eq (by omega) (by omega)]; exact H1 h1 h2)]
  · rw [if_neg h1]
/-- recovery, if it is still down -/
theorem crR_up {e : Nat → Int32} {M n p q x B : Nat} {ck cs cv : Nat → Int32} {co : Nat → Int64} {cc cm old cur z20 z8 z5 : Int32} {k : Nat → Int32} {s : Nat → Int32} {v : Nat → Int32} {o : Nat → Int64} {c : Int32} {mx : Int32} {ah : Int64} {rk : Nat → Int32} {rs : Nat → Int32} {rv : Nat → Int32} {ro : Nat → Int64} {sy : Int32} {b : Nat → Int32} {l : Nat → Int32} {g : Nat → Int32} {p1 : Int32} {p2 : Int32} {p3 : Int32} {p4 : Int32} {p5 : Int64} {per : Int32} {rp : Int32} (h : UPR e M B M k s v o c mx ah ck cs cv co cc cm old cur sy b l g per) (hv : VIS k o rk ro) (hper : per = mI M) (hq : cur = nI q) (hq2 : q < 2000) (hsy : sy = nI x) (hl : l (q % 4) = nI x) (hp : p ≤ M) (hn : M ≤ n) (hn2 : n ≤ 1000)
    (H1 : z8 = z5 → ¬ z20 = 1 → M = n) (H2 : z20 = 1 → ¬ z8 ≤ 0 → M < n) :
    CG e n B p ck cs cv co cc cm old cur (crR cc cm old cur b (mI p) (mI n) z20 z8 z5 ck cs cv co k s v o c mx ah rk rs rv ro sy l g p1 p2 p3 p4 p5 per rp 0) := by
  rw [crR, info7u, cal1_e, jp_e, if_neg (by decide)]
  exact crF_ok h hv hper hq hq2 hsy hl hp hn hn2 H1 H2
theorem crR_down {e V b : Nat → Int32} {n0 a q M L n p sy B : Nat} {S : Nat → Nat} {ck cs cv : Nat → Int32} {co : Nat → Int64} {z20 z8 z5 : Int32} {l : Nat → Int32} (h : DNR e V n0 a q M L S b l) (hC : DR e V n0 ck cs cv co) (hsy : sy ≤ PS e M - PS e (S q)) (hp : p ≤ M) (hn : M ≤ n) (hn2 : n ≤ 1000) (hMB : M ≤ B) (hqB : q ≤ B) (hB : B ≤ 1000)
    (H1 : z8 = z5 → ¬ z20 = 1 → M = n) (H2 : z20 = 1 → ¬ z8 ≤ 0 → M < n) (k s v rk rs rv : Nat → Int32) (o ro : Nat → Int64) (c mx : Int32) (ah : Int64) (g : Nat → Int32) (p1 p2 p3 p4 : Int32) (p5 : Int64) (per rp : Int32) :
    CG e n B p ck cs cv co (mI n0) (mI n0) (nI a) (nI q) (crR (mI n0) (mI n0) (nI a) (nI q) b (mI p) (mI n) z20 z8 z5 ck cs cv co k s v o c mx ah rk rs rv ro (nI sy) l g p1 p2 p3 p4 p5 per rp 1) := by
  have hL : L ≤ 240 := h.2.2.2.2.2.2.2.2.2.1
  have hpM : PS e M - PS e (S q) ≤ L := h.2.2.2.2.2.2.2.2.2.2.2.1
  have hq1 : q ≤ 1000 := h.2.2.1
  obtain ⟨k', s', v', o', rk', rs', rv', ro', gr', o1', o2', o3', o4', o5', hr, hD, hG, hvis⟩ := (recX h (by omega) hC (-1) (Or.inl (by decide)) k s v rk rs rv o ro c mx ah g p1 p2 p3 p4 p5 per rp).1 (Or.inl (by decide)) (Or.inr hsy)
  rw [crR, info7d, cal1_e, jp_e, if_pos rfl, hr, cal23_e, if_pos (by rw [l0, n_le (by omega) (by omega)]; omega)]
  exact crF_ok (DNR_UP h (Nat.le_refl _) hMB hqB hB hC hD hG) hvis rfl rfl (by omega) rfl (upd_s _ _ _) hp hn hn2 H1 H2
/-- a recovery that is stopped, or is not -/
theorem crS_ok {e V b : Nat → Int32} {n0 a q M L n p sy B : Nat} {S : Nat → Nat} {ck cs cv : Nat → Int32} {co : Nat → Int64} {z20 z8 z5 w : Int32} {l : Nat → Int32} (h : DNR e V n0 a q M L S b l) (hC : DR e V n0 ck cs cv co) (hsy : sy ≤ PS e M - PS e (S q)) (hp : p ≤ M) (hn : M ≤ n) (hn2 : n ≤ 1000) (hMB : M ≤ B) (hqB : q ≤ B) (hB : B ≤ 1000)
    (H1 : z8 = z5 → ¬ z20 = 1 → M = n) (H2 : z20 = 1 → ¬ z8 ≤ 0 → M < n) (k s v rk rs rv : Nat → Int32) (o ro : Nat → Int64) (c mx : Int32) (ah : Int64) (g : Nat → Int32) (p1 p2 p3 p4 : Int32) (p5 : Int64) (per rp : Int32) :
    CG e n B p ck cs cv co (mI n0) (mI n0) (nI a) (nI q) (crS (mI n0) (mI n0) (nI a) (nI q) (mI p) (mI n) z20 z8 z5 ck cs cv co w k s v o c mx ah rk rs rv ro (nI sy) b l g p1 p2 p3 p4 p5 per rp 1) := by
  have hL : L ≤ 240 := h.2.2.2.2.2.2.2.2.2.1
  have hpM : PS e M - PS e (S q) ≤ L := h.2.2.2.2.2.2.2.2.2.2.2.1
  have hq1 : q ≤ 1000 := h.2.2.1
  by_cases h3 : z20 = 3
  · obtain ⟨t, ht, et⟩ := pk_andE (w >>> (10 &&& 31)) (m := 3) 2 rfl
    have R := recX h (show sy ≤ 240 by omega) hC (nI t) (Or.inr (by rw [l0, n_le (by omega) (by omega)]; omega))
    rw [crS, jp_e, if_pos h3, bnd_e, bnd_e, et]
    have hnt : ¬ nI t < 0 := by rw [l0, n_lt (by omega) (by omega)]; omega
    by_cases hst : M - n0 ≤ t
    · obtain ⟨k', s', v', o', rk', rs', rv', ro', gr', o1', o2', o3', o4', o5', hr, hD, hG, hvis⟩ := (R k s v rk rs rv o ro c mx ah g p1 p2 p3 p4 p5 per rp).1 (Or.inr (by rw [n_le (by omega) (by omega)]; exact hst)) (Or.inr hsy)
      rw [hr, cal23_e, jp_e, if_neg (by rw [n_lt (by omega) (by omega)]; omega), if_pos (by rw [l0, n_le (by omega) (by omega)]; omega)]
      exact crR_up (DNR_UP h (Nat.le_refl _) hMB hqB hB hC hD hG) hvis rfl rfl (by omega) rfl (upd_s _ _ _) hp hn hn2 H1 H2
    · have hM1 : M ≤ 1000 := h.2.2.2.1
      have hs4 : ¬ (nI t < 0 ∨ nI (M - n0) ≤ nI t) := by
        rw [n_le (by omega) (by omega)]
        exact fun h => h.elim hnt hst
      obtain ⟨k', s', v', o', c', mx', ah', gr', o1', o2', o3', o4', o5', rp', hr⟩ := (R k s v rk rs rv o ro c mx ah g p1 p2 p3 p4 p5 per rp).2.2 hs4
      obtain ⟨k2, s2, v2, o2, c2, mx2, ah2, gr2, p12, p22, p32, p42, p52, rp2, hr2⟩ := (R k' s' v' rk rs rv o' ro c' mx' ah' gr' o1' o2' o3' o4' o5' per rp').2.2 hs4
      have h4t : ¬ nI t < -4 := by
        intro h
        have h5 := Int32.lt_iff_toInt_lt.mp h
        rw [nI_toInt (by omega), show (-4 : Int32).toInt = -4 from rfl] at h5
        omega
      rw [hr, cal23_e, jp_e, if_neg h4t, if_neg (by decide), if_pos rfl, hr2, cal23_e, if_pos rfl]
      exact crR_down h hC hsy hp hn hn2 hMB hqB hB H1 H2 k2 s2 v2 rk rs rv o2 ro c2 mx2 ah2 gr2 p12 p22 p32 p42 p52 per rp2
  · rw [crS, jp_e, if_neg h3]
    exact crR_down h hC hsy hp hn hn2 hMB hqB hB H1 H2 k s v rk rs rv o ro c mx ah g p1 p2 p3 p4 p5 per rp
theorem flipU {a q L at_ x : Nat} {b l : Nat → Int32} (haq : a ≤ q) (hq : q < 2000) (hl : l (q % 4) = nI L) (hL : L ≤ 240) (hat : at_ < L) (hx : x < 256) : fX5_flip (nI a) (nI q) b l (nI q) (nI at_) (nI x) = some (b (240 * (q % 4) + at_) ^^^ nI x, upd b (240 * (q % 4) + at_) (b (240 * (q % 4) + at_) ^^^ nI x)) := by
  have hh : fX2_hasByte (nI a) (nI q) l (nI q) (nI at_) = some 1 := by
    rw [fX2_hasByte]
    simp only [jp_e]
    rw [if_neg (by rw [n_lt (by omega) (by omega)]; omega), if_neg (by rw [n_lt (by omega) (by omega)]; omega), if_neg (by rw [l0, n_lt (by omega) (by omega)]; omega), rowOf_ok _ (by omega), cal1_e, rdI_n (by omega) (by omega), hl, if_neg (by rw [n_le (by omega) (by omega)]; omega), zok_1]
  have hc : fX2_change b (nI q) (nI at_) (nI x) = some (b (240 * (q % 4) + at_) ^^^ nI x, upd b (240 * (q % 4) + at_) (b (240 * (q % 4) + at_) ^^^ nI x)) := by
    rw [fX2_change, jp_e, if_neg (by rw [l0, n_lt (by omega) (by omega)]; omega), if_pos (by rw [l240, n_lt (by omega) (by omega)]; omega), rowOf_ok _ (by omega), cal1_e, bnd_e, show nI (q % 4) * (240 : Int32) = nI (240 * (q % 4)) from by rw [l240, n_mul, Nat.mul_comm], n_add, bnd_e, rdI_n (by omega) (by omega), bnd_e, wrI_n (by omega) (by omega), rdI_n (by omega) (by omega), upd_s]
  rw [fX5_flip, hh, cal1_e, jp_e, if_neg (by decide), if_neg (by rw [l0, n_lt (by omega) (by omega)]; omega), if_pos (by rw [l255, n_le (by omega) (by omega)]; omega), hc, cal2_e]
theorem By_ge {x : Int32} (h : By x) : 0 ≤ x ∧ ¬ x < 0 := by
  obtain ⟨b, hb, rfl⟩ := h
  rw [l0, n_le (by omega) (by omega), n_lt (by omega) (by omega)]
  omega
theorem xor_ne {y : Int32} {x : Nat} (h0 : 0 < x) (hx : x < 256) : y ^^^ nI x ≠ y := by
  intro h
  have h2 : y ^^^ nI x = y ^^^ 0 := by rw [h, Int32.xor_zero]
  have h3 := xor_r h2
  rw [l0, n_eq (by omega) (by omega)] at h3
  omega
/-- a synced byte is altered, and altered back -/
theorem crT_ok {e V b l0' : Nat → Int32} {n0 a q M L n p sy B x : Nat} {S : Nat → Nat} {ck cs cv : Nat → Int32} {co : Nat → Int64} {z20 z8 z5 w : Int32} {l : Nat → Int32} (h : DNR e V n0 a q M L S b l) (hC : DR e V n0 ck cs cv co) (hsy : sy ≤ PS e M - PS e (S q)) (hp : p ≤ M) (hn : M ≤ n) (hn2 : n ≤ 1000) (hMB : M ≤ B) (hqB : q ≤ B) (hB : B ≤ 1000)
    (H1 : z8 = z5 → ¬ z20 = 1 → M = n) (H2 : z20 = 1 → ¬ z8 ≤ 0 → M < n) (hx0 : 0 < x) (hx : x < 256)
    (hbad : z20 = 2 → ∀ t, t < sy → By (b (240 * (q % 4) + t)) ∧ ∃ M2 L2, PS e M2 - PS e (S q) ≤ t ∧ PS e M2 - PS e (S q) < L2 ∧ M2 ≤ 1000 ∧ DNR e V n0 a q M2 L2 S (upd b (240 * (q % 4) + t) (b (240 * (q % 4) + t) ^^^ nI x)) l)
    (k s v rk rs rv : Nat → Int32) (o ro : Nat → Int64) (c mx : Int32) (ah : Int64) (g : Nat → Int32) (p1 p2 p3 p4 : Int32) (p5 : Int64) (per rp : Int32) :
    CG e n B p ck cs cv co (mI n0) (mI n0) (nI a) (nI q) (crT (mI n0) (mI n0) (nI a) (nI q) (mI p) (mI n) z20 z8 z5 ck cs cv co w (nI sy) k s v o c mx ah rk rs rv ro (nI sy) l g p1 p2 p3 p4 p5 per rp 1 (nI q) (nI x) b) := by
  have hL : L ≤ 240 := h.2.2.2.2.2.2.2.2.2.1
  have hpM : PS e M - PS e (S q) ≤ L := h.2.2.2.2.2.2.2.2.2.2.2.1
  have hq1 : q ≤ 1000 := h.2.2.1
  have hl : l (q % 4) = nI L := h.2.2.2.2.2.2.2.2.1
  rw [crT]
  refine jp_P (fun J215 h215 => ?_)
  have hJ : ∀ (k s v rk rs rv : Nat → Int32) (o ro : Nat → Int64) (c mx : Int32) (ah : Int64) (g : Nat → Int32) (p1 p2 p3 p4 : Int32) (p5 : Int64) (per rp : Int32), CG e n B p ck cs cv co (mI n0) (mI n0) (nI a) (nI q) (J215 k s v o c mx ah rk rs rv ro (nI sy) b l g p1 p2 p3 p4 p5 per rp 1) := by
    intro k s v rk rs rv o ro c mx ah g p1 p2 p3 p4 p5 per rp
    rw [h215]
    exact crS_ok h hC hsy hp hn hn2 hMB hqB hB H1 H2 k s v rk rs rv o ro c mx ah g p1 p2 p3 p4 p5 per rp
  clear h215
  by_cases h2 : z20 = 2
  rotate_left
  · rw [if_neg h2]
    exact hJ k s v rk rs rv o ro c mx ah g p1 p2 p3 p4 p5 per rp
  rw [if_pos h2]
  by_cases hs0 : sy = 0
  · rw [if_pos (by rw [hs0]; decide)]
    exact hJ k s v rk rs rv o ro c mx ah g p1 p2 p3 p4 p5 per rp
  obtain ⟨j, hj, ej⟩ := pk_andE (w >>> (10 &&& 31)) (m := 255) 8 rfl
  have hjs : j % sy < sy := Nat.mod_lt _ (by omega)
  have hrm : ∀ (K : Int32 → Option ((Int32) × (Nat → Int32) × (Nat → Int32) × (Nat → Int32) × (Nat → Int64) × (Int32) × (Int32) × (Int64) × (Nat → Int32) × (Nat → Int32) × (Nat → Int32) × (Nat → Int64) × (Int32) × (Nat → Int32) × (Nat → Int32) × (Nat → Int32) × (Int32) × (Int32) × (Int32) × (Int32) × (Int64) × (Int32) × (Int32) × (Int32))), rmk (nI j) (nI sy) K = K (nI (j % sy)) := by
    intro K
    unfold rmk
    rw [if_neg (by rw [l0, n_eq (by omega) (by omega)]; exact hs0), pk_rem (by omega) (by omega) (by omega)]
  obtain ⟨hby, M2, L2, m1, m2, m3, hd2⟩ := hbad h2 (j % sy) hjs
  have hbyx : By (b (240 * (q % 4) + j % sy) ^^^ nI x) := By_xor hby ⟨x, hx, rfl⟩
  have hL2 : L2 = L := by
    have h1 : l (q % 4) = nI L2 := hd2.2.2.2.2.2.2.2.2.1
    have h2 : L2 ≤ 240 := hd2.2.2.2.2.2.2.2.2.2.1
    rw [hl, n_eq (by omega) (by omega)] at h1
    exact h1.symm
  have hno : ¬ (PS e M2 - PS e (S q) = L2 ∨ sy ≤ PS e M2 - PS e (S q)) := by omega
  have R := fun stop hst => recX hd2 (show sy ≤ 240 by omega) hC stop hst
  obtain ⟨k', s', v', o', c', mx', ah', gr', o1', o2', o3', o4', o5', rp', hr⟩ := (R (-1) (Or.inl (by decide)) k s v rk rs rv o ro c mx ah g p1 p2 p3 p4 p5 per rp).2.1 (Or.inl (by decide)) hno
  obtain ⟨k2, s2, v2, o2, c2, mx2, ah2, gr2, p12, p22, p32, p42, p52, rp2, hr2⟩ := (R 1000 (Or.inr (by decide)) k' s' v' rk rs rv o' ro c' mx' ah' gr' o1' o2' o3' o4' o5' per rp').2.1 (Or.inr (by rw [show (1000 : Int32) = nI 1000 from rfl, n_le (by omega) (by omega)]; omega)) hno
  have haq : a ≤ q := h.1
  have hfl := flipU (b := b) haq (by omega) hl hL (show j % sy < L by omega) hx
  have hfl2 := flipU (b := upd b (240 * (q % 4) + j % sy) (b (240 * (q % 4) + j % sy) ^^^ nI x)) haq (by omega) hl hL (show j % sy < L by omega) hx
  rw [upd_s, upd_u, Int32.xor_assoc, Int32.xor_self, Int32.xor_zero, upd_id b rfl] at hfl2
  rw [if_neg (by rw [l0, n_le (by omega) (by omega)]; omega), bnd_e, bnd_e, ej, hrm, hfl, cal2_e, jp_e, if_neg (By_ge hbyx).2, hr, cal23_e, if_pos rfl, info7d, cal1_e, if_pos rfl, hr2, cal23_e, if_pos rfl, hfl2, cal2_e, if_pos (By_ge hby).1]
  exact hJ k2 s2 v2 rk rs rv o2 ro c2 mx2 ah2 gr2 p12 p22 p32 p42 p52 per rp2
theorem bit_ok {j : Nat} (hj : j < 8) : ∃ x, 0 < x ∧ x < 256 ∧ (1 : Int32) <<< (nI j &&& 31) = nI x := by
  rcases (show j = 0 ∨ j = 1 ∨ j = 2 ∨ j = 3 ∨ j = 4 ∨ j = 5 ∨ j = 6 ∨ j = 7 by omega) with rfl | rfl | rfl | rfl | rfl | rfl | rfl | rfl
  · exact ⟨1, by omega, by omega, rfl⟩
  · exact ⟨2, by omega, by omega, rfl⟩
  · exact ⟨4, by omega, by omega, rfl⟩
  · exact ⟨8, by omega, by omega, rfl⟩
  · exact ⟨16, by omega, by omega, rfl⟩
  · exact ⟨32, by omega, by omega, rfl⟩
  · exact ⟨64, by omega, by omega, rfl⟩
  · exact ⟨128, by omega, by omega, rfl⟩
/-- the law's crash -/
theorem crashU {e : Nat → Int32} {n B P0 : Nat} {k : Nat → Int32} {s : Nat → Int32} {v : Nat → Int32} {o : Nat → Int64} {c : Int32} {mx : Int32} {ah : Int64} {rk : Nat → Int32} {rs : Nat → Int32} {rv : Nat → Int32} {ro : Nat → Int64} {sy : Int32} {b : Nat → Int32} {l : Nat → Int32} {g : Nat → Int32} {p1 : Int32} {p2 : Int32} {p3 : Int32} {p4 : Int32} {p5 : Int64} {per : Int32} {rp : Int32} {ck cs cv : Nat → Int32} {co : Nat → Int64} {cc cm old cur : Int32} (h : UPR e n B P0 k s v o c mx ah ck cs cv co cc cm old cur sy b l g per) (w : Int32) :
    CG e n B P0 ck cs cv co cc cm old cur (fL_crash k s v o c mx ah ck cs cv co cc cm rk rs rv ro old cur sy b l g p1 p2 p3 p4 p5 per rp 0 w) := by
  obtain ⟨V, n0, p, a, q, S, ⟨rfl, rfl, rfl, hD⟩, ⟨hC, rfl, rfl⟩, ⟨hV, hnB, hB⟩, ⟨rfl, rfl, hqB, hLG, hSa, hSq, hG⟩, ⟨hp1, hp2, rfl, rfl, hP⟩⟩ := h
  refine CG_le ?_ hP
  have hLG0 := hLG
  obtain ⟨haq, hqa, hg⟩ := hLG
  obtain ⟨c1, c2, c3, c4⟩ := hg q haq (Nat.le_refl _)
  rw [hSq] at c1 c2 c3 c4
  have hpm := PS_mono e hp1
  have hpn := PS_mono e hp2
  obtain ⟨W, hW⟩ : ∃ W, W = PS e n - PS e (S q) - (PS e p - PS e (S q)) := ⟨_, rfl⟩
  obtain ⟨j, hj, ej⟩ := pk_andE w (m := 255) 8 rfl
  obtain ⟨t8, ht8, et8⟩ := pk_andE (w >>> (18 &&& 31)) (m := 7) 3 rfl
  obtain ⟨x, hx0, hx, ex⟩ := bit_ok (show t8 < 8 by omega)
  have hcnt : fX2_count (nI a) (nI q) = some (nI (q + 1 - a)) := by
    rw [fX2_count, n_sub haq, bnd_e, l1, n_add, bnd_e, show q - a + 1 = q + 1 - a by omega]
  have hrm : ∀ (K : Int32 → Option ((Int32) × (Nat → Int32) × (Nat → Int32) × (Nat → Int32) × (Nat → Int64) × (Int32) × (Int32) × (Int64) × (Nat → Int32) × (Nat → Int32) × (Nat → Int32) × (Nat → Int64) × (Int32) × (Nat → Int32) × (Nat → Int32) × (Nat → Int32) × (Int32) × (Int32) × (Int32) × (Int32) × (Int64) × (Int32) × (Int32) × (Int32))), rmk (nI j) (nI (W + 1)) K = K (nI (j % (W + 1))) := by
    intro K
    unfold rmk
    rw [if_neg (by rw [l0, n_eq (by omega) (by omega)]; omega), pk_rem (by omega) (by omega) (by omega)]
  have hK : j % (W + 1) < W + 1 := Nat.mod_lt _ (by omega)
  obtain ⟨K, eK⟩ : ∃ K, j % (W + 1) = K := ⟨_, rfl⟩
  rw [eK] at hK
  have hcr : fX5_crash (nI q) (nI (PS e p - PS e (S q))) l 0 (nI K) = some (nI (W - K), upd l (q % 4) (nI (PS e p - PS e (S q) + K)), 1) := by
    rw [fX5_crash, if_pos rfl, fX2_unsynced, lengthOf_ok (by omega) l c2, cal1_e, n_sub (by omega), bnd_e, cal1_e, jp_e, if_neg (by rw [l0, n_lt (by omega) (by omega)]; omega), if_pos (by rw [n_le (by omega) (by omega)]; omega), n_add, bnd_e, fX2_cutCurrent, rowOf_ok _ (by omega), cal1_e, wrI_n (by omega) (by omega), cal1_e, ← hW, n_sub (by omega), bnd_e]
  rw [fL_crash, info5 _ _ _ _ _ _ _ _ _ _ (by omega) c2, cal1_e, info6, cal1_e, n_sub (by omega), ← hW, bnd_e, ej, bnd_e, nI_1, bnd_e, hrm, eK, info2, cal1_e, info0, cal1_e, info4, cal1_e, info3 _ _ _ _ _ _ _ _ _ _ _ hcnt, cal1_e, n_add, bnd_e, show a + (q + 1 - a) = q + 1 by omega, nI_pred, bnd_e, bnd_e, bnd_e, bnd_e, et8, bnd_e, ex, bnd_e, hcr, cal3_e, n_sub (by omega), bnd_e, if_pos rfl, info6, cal1_e]
  obtain ⟨M0, hM0, hM0n, hM0e, hdn⟩ := DNR_cut (L := PS e p - PS e (S q) + K) (B := B) hLG0 hSa hSq hV (by omega) (by omega) hp1 hp2 (by omega) (by omega)
  have hpM0 := PS_mono e hM0
  obtain ⟨how, ehow⟩ : ∃ z, w >>> (8 &&& 31) &&& 3 = z := ⟨_, rfl⟩
  rw [ehow]
  refine jp_P (fun J130 h130 => ?_)
  have hJ0 : ¬ (how = 1 ∧ 0 < K) → CG e n B p ck cs cv co (mI n0) (mI n0) (nI a) (nI q) (J130 b) := by
    intro hno
    rw [h130]
    have hA1 : nI K = nI W → ¬ how = 1 → M0 = n := by
      intro hw _
      rw [n_eq (by omega) (by omega)] at hw
      exact hM0e (by omega)
    have hA2 : how = 1 → ¬ nI K ≤ 0 → M0 < n := by
      intro e1 e2
      rw [l0, n_le (by omega) (by omega)] at e2
      exact absurd ⟨e1, by omega⟩ hno
    refine crT_ok (l0' := l) hdn hC (by omega) hM0 hM0n (by omega) (by omega) hqB hB hA1 hA2 hx0 hx ?_ k s v rk rs rv o ro (mI n) (mI n) 0 g p1 p2 p3 p4 p5 (mI p) rp
    intro _ t ht
    have hbt := gen_by c1 c4 (show t < PS e n - PS e (S q) by omega)
    obtain ⟨M2, m0, m1, m2, m3, m4, hd2⟩ := DNR_alt (B := B) (L := PS e p - PS e (S q) + K) hLG0 hSa hSq hV (by omega) (by omega) (show t < PS e p - PS e (S q) + K by omega) (by omega) (By_xor hbt ⟨x, hx, rfl⟩) (xor_ne hx0 hx)
    exact ⟨hbt, M2, _, m2, m4, by omega, hd2⟩
  by_cases h1 : how = 1
  rotate_left
  · rw [if_neg h1]
    exact hJ0 (fun h => h1 h.1)
  rw [if_pos h1]
  by_cases hk0 : K = 0
  · rw [if_pos (by rw [hk0]; decide)]
    exact hJ0 (fun h => by omega)
  obtain ⟨j2, hj2, ej2⟩ := pk_andE (w >>> (10 &&& 31)) (m := 255) 8 rfl
  have hjk : j2 % K < K := Nat.mod_lt _ (by omega)
  have hrm2 : ∀ (F : Int32 → Option ((Int32) × (Nat → Int32) × (Nat → Int32) × (Nat → Int32) × (Nat → Int64) × (Int32) × (Int32) × (Int64) × (Nat → Int32) × (Nat → Int32) × (Nat → Int32) × (Nat → Int64) × (Int32) × (Nat → Int32) × (Nat → Int32) × (Nat → Int32) × (Int32) × (Int32) × (Int32) × (Int32) × (Int64) × (Int32) × (Int32) × (Int32))), rmk (nI j2) (nI K) F = F (nI (j2 % K)) := by
    intro F
    unfold rmk
    rw [if_neg (by rw [l0, n_eq (by omega) (by omega)]; exact hk0), pk_rem (by omega) (by omega) (by omega)]
  obtain ⟨t, et⟩ : ∃ t, t = PS e p - PS e (S q) + j2 % K := ⟨_, rfl⟩
  have hbt := gen_by c1 c4 (show t < PS e n - PS e (S q) by omega)
  obtain ⟨M2, m0, m1, m2, m3, m4, hd2⟩ := DNR_alt (B := B) (L := PS e p - PS e (S q) + K) hLG0 hSa hSq hV (by omega) (by omega) (show t < PS e p - PS e (S q) + K by omega) (by omega) (By_xor hbt ⟨x, hx, rfl⟩) (xor_ne hx0 hx)
  have hpM2 : p ≤ M2 := by
    by_cases hh : p ≤ M2
    · exact hh
    · have h7 := PS_mono e (show M2 + 1 ≤ p by omega)
      have h9 := PS_mono e m0
      omega
  have hps2 := PS_mono e hpM2
  have hfl := flipU (b := b) (l := upd l (q % 4) (nI (PS e p - PS e (S q) + K))) haq (by omega) (upd_s _ _ _) (by omega) (show t < PS e p - PS e (S q) + K by omega) hx
  rw [if_neg (by rw [l0, n_le (by omega) (by omega)]; omega), bnd_e, bnd_e, ej2, hrm2, n_add, bnd_e, ← et, hfl, cal2_e, if_pos (By_ge (By_xor hbt ⟨x, hx, rfl⟩)).1, h130]
  exact crT_ok (l0' := l) hd2 hC (by omega) hpM2 (by omega) (by omega) (by omega) hqB hB (fun _ hh => absurd h1 hh) (fun _ _ => m1) hx0 hx (fun h2 => by rw [h1] at h2; exact absurd h2 (by decide)) k s v rk rs rv o ro (mI n) (mI n) 0 g p1 p2 p3 p4 p5 (mI p) rp
