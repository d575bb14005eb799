theorem n_a1 {w : Cond} (i : Nat) (h : tables_1_1[i]? = some w) (hg : goodWord w = true) : w ∈ n_tb := n_in (List.mem_append_left _ (List.mem_of_getElem? h)) hg
theorem n_a2 {w : Cond} (i : Nat) (h : tables_1_2[i]? = some w) (hg : goodWord w = true) : w ∈ n_tb := n_in (List.mem_append_right _ (List.mem_append_left _ (List.mem_of_getElem? h))) hg
theorem n_a3 {w : Cond} (i : Nat) (h : tables_1_3[i]? = some w) (hg : goodWord w = true) : w ∈ n_tb := n_in (List.mem_append_right _ (List.mem_append_right _ (List.mem_append_left _ (List.mem_of_getElem? h)))) hg
theorem n_a4 {w : Cond} (i : Nat) (h : tables_1_4[i]? = some w) (hg : goodWord w = true) : w ∈ n_tb := n_in (List.mem_append_right _ (List.mem_append_right _ (List.mem_append_right _ (List.mem_append_left _ (List.mem_of_getElem? h))))) hg
theorem n_a5 {w : Cond} (i : Nat) (h : tables_1_5[i]? = some w) (hg : goodWord w = true) : w ∈ n_tb := n_in (List.mem_append_right _ (List.mem_append_right _ (List.mem_append_right _ (List.mem_append_right _ (List.mem_append_left _ (List.mem_of_getElem? h)))))) hg
theorem n_a6 {w : Cond} (i : Nat) (h : tables_1_6[i]? = some w) (hg : goodWord w = true) : w ∈ n_tb := n_in (List.mem_append_right _ (List.mem_append_right _ (List.mem_append_right _ (List.mem_append_right _ (List.mem_append_right _ (List.mem_append_left _ (List.mem_of_getElem? h))))))) hg
theorem n_a7 {w : Cond} (i : Nat) (h : tables_1_7[i]? = some w) (hg : goodWord w = true) : w ∈ n_tb := n_in (List.mem_append_right _ (List.mem_append_right _ (List.mem_append_right _ (List.mem_append_right _ (List.mem_append_right _ (List.mem_append_right _ (List.mem_append_left _ (List.mem_of_getElem? h)))))))) hg
theorem n_a8 {w : Cond} (i : Nat) (h : tables_1_8[i]? = some w) (hg : goodWord w = true) : w ∈ n_tb := n_in (List.mem_append_right _ (List.mem_append_right _ (List.mem_append_right _ (List.mem_append_right _ (List.mem_append_right _ (List.mem_append_right _ (List.mem_append_right _ (List.mem_of_getElem? h)))))))) hg
theorem wzL : Cond.initialized "ShareMonitorLaw" ∈ n_tb := n_a1 0 (by decide +kernel) rfl
theorem wzX11 : Cond.initialized "ShareMonitor" ∈ n_tb := n_a1 1 (by decide +kernel) rfl
theorem wzX8 : Cond.initialized "ShareMonitor$Tape" ∈ n_tb := n_a1 2 (by decide +kernel) rfl
theorem wzX6 : Cond.initialized "ShareMonitor$Reader" ∈ n_tb := n_a1 3 (by decide +kernel) rfl
theorem wzX2 : Cond.initialized "ShareMonitor$Desk" ∈ n_tb := n_a1 4 (by decide +kernel) rfl
theorem wzX3 : Cond.initialized "ShareMonitor$Memory" ∈ n_tb := n_a1 5 (by decide +kernel) rfl
theorem wzX9 : Cond.initialized "ShareMonitor$UserProcess" ∈ n_tb := n_a1 6 (by decide +kernel) rfl
theorem wzX1 : Cond.initialized "ShareMonitor$Box" ∈ n_tb := n_a1 7 (by decide +kernel) rfl
theorem wzX5 : Cond.initialized "ShareMonitor$Program" ∈ n_tb := n_a1 8 (by decide +kernel) rfl
theorem wzX7 : Cond.initialized "ShareMonitor$Row" ∈ n_tb := n_a1 9 (by decide +kernel) rfl
theorem wzX10 : Cond.initialized "ShareMonitor$Worker" ∈ n_tb := n_a1 10 (by decide +kernel) rfl
theorem wzX12 : Cond.initialized "ShareMonitorModel" ∈ n_tb := n_a1 11 (by decide +kernel) rfl
theorem wzJ9 : Cond.initialized "java/lang/Math" ∈ n_tb := n_a1 18 (by decide +kernel) rfl
theorem wzX4 : Cond.initialized "ShareMonitor$Op" ∈ n_tb := n_a1 20 (by decide +kernel) rfl
theorem wzJ0 : Cond.initialized "java/lang/String" ∈ n_tb := n_a1 21 (by decide +kernel) rfl
theorem wzJ1 : Cond.initialized "java/lang/StringLatin1" ∈ n_tb := n_a1 22 (by decide +kernel) rfl
theorem wzJ3 : Cond.initialized "jdk/internal/util/Preconditions" ∈ n_tb := n_a1 23 (by decide +kernel) rfl
theorem wzJ2 : Cond.initialized "java/lang/StringUTF16" ∈ n_tb := n_a1 24 (by decide +kernel) rfl
theorem wzX0 : Cond.initialized "ShareMonitor$1" ∈ n_tb := n_a1 25 (by decide +kernel) rfl
theorem wzJ7 : Cond.initialized "java/util/Arrays" ∈ n_tb := n_a1 26 (by decide +kernel) rfl
theorem wzJ5 : Cond.initialized "java/lang/AbstractStringBuilder" ∈ n_tb := n_a1 27 (by decide +kernel) rfl
theorem wzJ4 : Cond.initialized "java/lang/StringBuilder" ∈ n_tb := n_a1 28 (by decide +kernel) rfl
theorem wzJ8 : Cond.initialized "jdk/internal/util/ArraysSupport" ∈ n_tb := n_a1 29 (by decide +kernel) rfl
theorem wzJ10 : Cond.initialized "java/lang/System" ∈ n_tb := n_a1 30 (by decide +kernel) rfl
theorem wzJ6 : Cond.initialized "java/lang/Integer" ∈ n_tb := n_a1 31 (by decide +kernel) rfl
theorem wmL_78 : Cond.methodLink "ShareMonitorLaw" 78 yX11_init ∈ n_tb := n_a1 36 (by decide +kernel) rfl
theorem wi_yX11_init : Cond.instanceMethod yX11_init ∈ n_tb := n_a1 37 (by decide +kernel) rfl
set_option maxRecDepth 100000 in
theorem wc_yX11_init : Cond.code yX11_init cX11_init 1 (Option.none : Option Jvm.ClassFile.FieldType) ∈ n_tb := n_a1 38 rfl rfl
theorem wi_yX8_init : Cond.instanceMethod yX8_init ∈ n_tb := n_a1 45 (by decide +kernel) rfl
set_option maxRecDepth 100000 in
theorem wc_yX8_init : Cond.code yX8_init cX8_init 1 (Option.none : Option Jvm.ClassFile.FieldType) ∈ n_tb := n_a1 46 rfl rfl
theorem wfX8_9 : Cond.fieldLink "ShareMonitor$Tape" 9 "ShareMonitor$Tape" "bytes" "[B" ∈ n_tb := n_a1 48 (by decide +kernel) rfl
theorem wfX11_41 : Cond.fieldLink "ShareMonitor" 41 "ShareMonitor$Tape" "length" "I" ∈ n_tb := n_a1 49 (by decide +kernel) rfl
theorem wfX8_15 : Cond.fieldLink "ShareMonitor$Tape" 15 "ShareMonitor$Tape" "length" "I" ∈ n_tb := n_a1 50 (by decide +kernel) rfl
theorem wfX6_60 : Cond.fieldLink "ShareMonitor$Reader" 60 "ShareMonitor$Tape" "length" "I" ∈ n_tb := n_a1 51 (by decide +kernel) rfl
theorem wmX11_18 : Cond.methodLink "ShareMonitor" 18 yX6_init ∈ n_tb := n_a1 60 (by decide +kernel) rfl
theorem wi_yX6_init : Cond.instanceMethod yX6_init ∈ n_tb := n_a1 61 (by decide +kernel) rfl
set_option maxRecDepth 100000 in
theorem wc_yX6_init : Cond.code yX6_init cX6_init 2 (Option.none : Option Jvm.ClassFile.FieldType) ∈ n_tb := n_a1 62 rfl rfl
theorem wfX6_27 : Cond.fieldLink "ShareMonitor$Reader" 27 "ShareMonitor$Reader" "tape" "LShareMonitor$Tape;" ∈ n_tb := n_a1 64 (by decide +kernel) rfl
theorem wfX6_9 : Cond.fieldLink "ShareMonitor$Reader" 9 "ShareMonitor$Reader" "labelPlaces" "[I" ∈ n_tb := n_a1 65 (by decide +kernel) rfl
theorem wfX6_15 : Cond.fieldLink "ShareMonitor$Reader" 15 "ShareMonitor$Reader" "labelSizes" "[I" ∈ n_tb := n_a1 66 (by decide +kernel) rfl
theorem wfX6_18 : Cond.fieldLink "ShareMonitor$Reader" 18 "ShareMonitor$Reader" "labelTargets" "[I" ∈ n_tb := n_a1 67 (by decide +kernel) rfl
theorem wfX6_37 : Cond.fieldLink "ShareMonitor$Reader" 37 "ShareMonitor$Reader" "labels" "I" ∈ n_tb := n_a1 68 (by decide +kernel) rfl
theorem wfX6_21 : Cond.fieldLink "ShareMonitor$Reader" 21 "ShareMonitor$Reader" "namePlaces" "[I" ∈ n_tb := n_a1 69 (by decide +kernel) rfl
theorem wfX6_24 : Cond.fieldLink "ShareMonitor$Reader" 24 "ShareMonitor$Reader" "nameSizes" "[I" ∈ n_tb := n_a1 70 (by decide +kernel) rfl
theorem wfX6_73 : Cond.fieldLink "ShareMonitor$Reader" 73 "ShareMonitor$Reader" "start" "I" ∈ n_tb := n_a1 71 (by decide +kernel) rfl
theorem wfX6_40 : Cond.fieldLink "ShareMonitor$Reader" 40 "ShareMonitor$Reader" "stop" "I" ∈ n_tb := n_a1 72 (by decide +kernel) rfl
theorem wfX6_43 : Cond.fieldLink "ShareMonitor$Reader" 43 "ShareMonitor$Reader" "fault" "I" ∈ n_tb := n_a1 73 (by decide +kernel) rfl
theorem wfX11_80 : Cond.fieldLink "ShareMonitor" 80 "ShareMonitor$Reader" "fault" "I" ∈ n_tb := n_a1 74 (by decide +kernel) rfl
theorem wfX6_46 : Cond.fieldLink "ShareMonitor$Reader" 46 "ShareMonitor$Reader" "faultPlace" "I" ∈ n_tb := n_a1 75 (by decide +kernel) rfl
theorem wfX11_83 : Cond.fieldLink "ShareMonitor" 83 "ShareMonitor$Reader" "faultPlace" "I" ∈ n_tb := n_a1 76 (by decide +kernel) rfl
theorem wmX11_27 : Cond.methodLink "ShareMonitor" 27 yX2_init ∈ n_tb := n_a1 103 (by decide +kernel) rfl
theorem wi_yX2_init : Cond.instanceMethod yX2_init ∈ n_tb := n_a1 104 (by decide +kernel) rfl
set_option maxRecDepth 100000 in
theorem wc_yX2_init : Cond.code yX2_init cX2_init 2 (Option.none : Option Jvm.ClassFile.FieldType) ∈ n_tb := n_a1 105 rfl rfl
theorem wmX2_38 : Cond.methodLink "ShareMonitor$Desk" 38 yX3_init ∈ n_tb := n_a1 115 (by decide +kernel) rfl
theorem wi_yX3_init : Cond.instanceMethod yX3_init ∈ n_tb := n_a1 116 (by decide +kernel) rfl
set_option maxRecDepth 100000 in
theorem wc_yX3_init : Cond.code yX3_init cX3_init 1 (Option.none : Option Jvm.ClassFile.FieldType) ∈ n_tb := n_a1 117 rfl rfl
theorem wfX3_9 : Cond.fieldLink "ShareMonitor$Memory" 9 "ShareMonitor$Memory" "cells" "[I" ∈ n_tb := n_a1 119 (by decide +kernel) rfl
theorem wfX10_217 : Cond.fieldLink "ShareMonitor$Worker" 217 "ShareMonitor$Memory" "cells" "[I" ∈ n_tb := n_a1 120 (by decide +kernel) rfl
theorem wfX11_222 : Cond.fieldLink "ShareMonitor" 222 "ShareMonitor$Memory" "cells" "[I" ∈ n_tb := n_a1 121 (by decide +kernel) rfl
theorem wfX3_15 : Cond.fieldLink "ShareMonitor$Memory" 15 "ShareMonitor$Memory" "holders" "[I" ∈ n_tb := n_a1 122 (by decide +kernel) rfl
theorem wfX11_233 : Cond.fieldLink "ShareMonitor" 233 "ShareMonitor$Memory" "holders" "[I" ∈ n_tb := n_a1 123 (by decide +kernel) rfl
theorem wfX3_18 : Cond.fieldLink "ShareMonitor$Memory" 18 "ShareMonitor$Memory" "sizes" "[I" ∈ n_tb := n_a1 124 (by decide +kernel) rfl
theorem wfX11_230 : Cond.fieldLink "ShareMonitor" 230 "ShareMonitor$Memory" "sizes" "[I" ∈ n_tb := n_a1 125 (by decide +kernel) rfl
theorem wmX2_51 : Cond.methodLink "ShareMonitor$Desk" 51 yX9_init ∈ n_tb := n_a1 135 (by decide +kernel) rfl
theorem wi_yX9_init : Cond.instanceMethod yX9_init ∈ n_tb := n_a1 136 (by decide +kernel) rfl
set_option maxRecDepth 100000 in
theorem wc_yX9_init : Cond.code yX9_init cX9_init 2 (Option.none : Option Jvm.ClassFile.FieldType) ∈ n_tb := n_a1 137 rfl rfl
theorem wi_yX1_init : Cond.instanceMethod yX1_init ∈ n_tb := n_a1 142 (by decide +kernel) rfl
set_option maxRecDepth 100000 in
theorem wc_yX1_init : Cond.code yX1_init cX1_init 1 (Option.none : Option Jvm.ClassFile.FieldType) ∈ n_tb := n_a1 143 rfl rfl
theorem wfX1_9 : Cond.fieldLink "ShareMonitor$Box" 9 "ShareMonitor$Box" "numbers" "[I" ∈ n_tb := n_a1 145 (by decide +kernel) rfl
theorem wfX11_207 : Cond.fieldLink "ShareMonitor" 207 "ShareMonitor$Box" "numbers" "[I" ∈ n_tb := n_a1 146 (by decide +kernel) rfl
theorem wfX10_249 : Cond.fieldLink "ShareMonitor$Worker" 249 "ShareMonitor$Box" "numbers" "[I" ∈ n_tb := n_a1 147 (by decide +kernel) rfl
theorem wfX1_15 : Cond.fieldLink "ShareMonitor$Box" 15 "ShareMonitor$Box" "senders" "[I" ∈ n_tb := n_a1 148 (by decide +kernel) rfl
theorem wfX11_204 : Cond.fieldLink "ShareMonitor" 204 "ShareMonitor$Box" "senders" "[I" ∈ n_tb := n_a1 149 (by decide +kernel) rfl
theorem wfX10_252 : Cond.fieldLink "ShareMonitor$Worker" 252 "ShareMonitor$Box" "senders" "[I" ∈ n_tb := n_a1 150 (by decide +kernel) rfl
theorem wfX1_18 : Cond.fieldLink "ShareMonitor$Box" 18 "ShareMonitor$Box" "size" "I" ∈ n_tb := n_a1 151 (by decide +kernel) rfl
theorem wfX10_96 : Cond.fieldLink "ShareMonitor$Worker" 96 "ShareMonitor$Box" "size" "I" ∈ n_tb := n_a1 152 (by decide +kernel) rfl
theorem wfX9_58 : Cond.fieldLink "ShareMonitor$UserProcess" 58 "ShareMonitor$Box" "size" "I" ∈ n_tb := n_a1 153 (by decide +kernel) rfl
theorem wfX11_174 : Cond.fieldLink "ShareMonitor" 174 "ShareMonitor$Box" "size" "I" ∈ n_tb := n_a1 154 (by decide +kernel) rfl
theorem wfX9_28 : Cond.fieldLink "ShareMonitor$UserProcess" 28 "ShareMonitor$UserProcess" "number" "I" ∈ n_tb := n_a1 162 (by decide +kernel) rfl
theorem wfX10_51 : Cond.fieldLink "ShareMonitor$Worker" 51 "ShareMonitor$UserProcess" "number" "I" ∈ n_tb := n_a1 163 (by decide +kernel) rfl
theorem wfX2_63 : Cond.fieldLink "ShareMonitor$Desk" 63 "ShareMonitor$UserProcess" "number" "I" ∈ n_tb := n_a1 164 (by decide +kernel) rfl
theorem wfX11_90 : Cond.fieldLink "ShareMonitor" 90 "ShareMonitor$UserProcess" "number" "I" ∈ n_tb := n_a1 165 (by decide +kernel) rfl
theorem wfX9_9 : Cond.fieldLink "ShareMonitor$UserProcess" 9 "ShareMonitor$UserProcess" "numbers" "[I" ∈ n_tb := n_a1 166 (by decide +kernel) rfl
theorem wfX11_198 : Cond.fieldLink "ShareMonitor" 198 "ShareMonitor$UserProcess" "numbers" "[I" ∈ n_tb := n_a1 167 (by decide +kernel) rfl
theorem wfX9_15 : Cond.fieldLink "ShareMonitor$UserProcess" 15 "ShareMonitor$UserProcess" "returns" "[I" ∈ n_tb := n_a1 168 (by decide +kernel) rfl
theorem wfX10_204 : Cond.fieldLink "ShareMonitor$Worker" 204 "ShareMonitor$UserProcess" "returns" "[I" ∈ n_tb := n_a1 169 (by decide +kernel) rfl
theorem wfX9_21 : Cond.fieldLink "ShareMonitor$UserProcess" 21 "ShareMonitor$UserProcess" "box" "LShareMonitor$Box;" ∈ n_tb := n_a1 170 (by decide +kernel) rfl
theorem wfX10_92 : Cond.fieldLink "ShareMonitor$Worker" 92 "ShareMonitor$UserProcess" "box" "LShareMonitor$Box;" ∈ n_tb := n_a1 171 (by decide +kernel) rfl
theorem wfX2_95 : Cond.fieldLink "ShareMonitor$Desk" 95 "ShareMonitor$UserProcess" "box" "LShareMonitor$Box;" ∈ n_tb := n_a1 172 (by decide +kernel) rfl
theorem wfX11_171 : Cond.fieldLink "ShareMonitor" 171 "ShareMonitor$UserProcess" "box" "LShareMonitor$Box;" ∈ n_tb := n_a1 173 (by decide +kernel) rfl
theorem wfX9_25 : Cond.fieldLink "ShareMonitor$UserProcess" 25 "ShareMonitor$UserProcess" "keys" "LShareMonitor$Box;" ∈ n_tb := n_a1 174 (by decide +kernel) rfl
theorem wfX10_108 : Cond.fieldLink "ShareMonitor$Worker" 108 "ShareMonitor$UserProcess" "keys" "LShareMonitor$Box;" ∈ n_tb := n_a1 175 (by decide +kernel) rfl
theorem wfX11_139 : Cond.fieldLink "ShareMonitor" 139 "ShareMonitor$UserProcess" "keys" "LShareMonitor$Box;" ∈ n_tb := n_a1 176 (by decide +kernel) rfl
theorem wfX10_73 : Cond.fieldLink "ShareMonitor$Worker" 73 "ShareMonitor$UserProcess" "depth" "I" ∈ n_tb := n_a1 177 (by decide +kernel) rfl
theorem wfX9_52 : Cond.fieldLink "ShareMonitor$UserProcess" 52 "ShareMonitor$UserProcess" "depth" "I" ∈ n_tb := n_a1 178 (by decide +kernel) rfl
theorem wfX11_165 : Cond.fieldLink "ShareMonitor" 165 "ShareMonitor$UserProcess" "depth" "I" ∈ n_tb := n_a1 179 (by decide +kernel) rfl
theorem wfX9_55 : Cond.fieldLink "ShareMonitor$UserProcess" 55 "ShareMonitor$UserProcess" "returnDepth" "I" ∈ n_tb := n_a1 180 (by decide +kernel) rfl
theorem wfX10_201 : Cond.fieldLink "ShareMonitor$Worker" 201 "ShareMonitor$UserProcess" "returnDepth" "I" ∈ n_tb := n_a1 181 (by decide +kernel) rfl
theorem wfX11_168 : Cond.fieldLink "ShareMonitor" 168 "ShareMonitor$UserProcess" "returnDepth" "I" ∈ n_tb := n_a1 182 (by decide +kernel) rfl
theorem wfX9_32 : Cond.fieldLink "ShareMonitor$UserProcess" 32 "ShareMonitor$UserProcess" "status" "I" ∈ n_tb := n_a1 183 (by decide +kernel) rfl
theorem wfX2_66 : Cond.fieldLink "ShareMonitor$Desk" 66 "ShareMonitor$UserProcess" "status" "I" ∈ n_tb := n_a1 184 (by decide +kernel) rfl
theorem wfX11_120 : Cond.fieldLink "ShareMonitor" 120 "ShareMonitor$UserProcess" "status" "I" ∈ n_tb := n_a1 185 (by decide +kernel) rfl
theorem wfX9_71 : Cond.fieldLink "ShareMonitor$UserProcess" 71 "ShareMonitor$UserProcess" "code" "I" ∈ n_tb := n_a1 186 (by decide +kernel) rfl
theorem wfX11_131 : Cond.fieldLink "ShareMonitor" 131 "ShareMonitor$UserProcess" "code" "I" ∈ n_tb := n_a1 187 (by decide +kernel) rfl
theorem wfX2_121 : Cond.fieldLink "ShareMonitor$Desk" 121 "ShareMonitor$UserProcess" "code" "I" ∈ n_tb := n_a1 188 (by decide +kernel) rfl
theorem wfX10_286 : Cond.fieldLink "ShareMonitor$Worker" 286 "ShareMonitor$UserProcess" "code" "I" ∈ n_tb := n_a1 189 (by decide +kernel) rfl
theorem wfX10_67 : Cond.fieldLink "ShareMonitor$Worker" 67 "ShareMonitor$UserProcess" "level" "I" ∈ n_tb := n_a1 190 (by decide +kernel) rfl
theorem wfX2_76 : Cond.fieldLink "ShareMonitor$Desk" 76 "ShareMonitor$UserProcess" "level" "I" ∈ n_tb := n_a1 191 (by decide +kernel) rfl
theorem wfX9_74 : Cond.fieldLink "ShareMonitor$UserProcess" 74 "ShareMonitor$UserProcess" "level" "I" ∈ n_tb := n_a1 192 (by decide +kernel) rfl
theorem wfX11_159 : Cond.fieldLink "ShareMonitor" 159 "ShareMonitor$UserProcess" "level" "I" ∈ n_tb := n_a1 193 (by decide +kernel) rfl
theorem wfX2_60 : Cond.fieldLink "ShareMonitor$Desk" 60 "ShareMonitor$UserProcess" "parent" "I" ∈ n_tb := n_a1 194 (by decide +kernel) rfl
theorem wfX9_77 : Cond.fieldLink "ShareMonitor$UserProcess" 77 "ShareMonitor$UserProcess" "parent" "I" ∈ n_tb := n_a1 195 (by decide +kernel) rfl
theorem wfX11_123 : Cond.fieldLink "ShareMonitor" 123 "ShareMonitor$UserProcess" "parent" "I" ∈ n_tb := n_a1 196 (by decide +kernel) rfl
theorem wfX10_283 : Cond.fieldLink "ShareMonitor$Worker" 283 "ShareMonitor$UserProcess" "parent" "I" ∈ n_tb := n_a1 197 (by decide +kernel) rfl
theorem wfX9_35 : Cond.fieldLink "ShareMonitor$UserProcess" 35 "ShareMonitor$UserProcess" "program" "LShareMonitor$Program;" ∈ n_tb := n_a1 198 (by decide +kernel) rfl
theorem wfX2_72 : Cond.fieldLink "ShareMonitor$Desk" 72 "ShareMonitor$UserProcess" "program" "LShareMonitor$Program;" ∈ n_tb := n_a1 199 (by decide +kernel) rfl
theorem wfX10_275 : Cond.fieldLink "ShareMonitor$Worker" 275 "ShareMonitor$UserProcess" "program" "LShareMonitor$Program;" ∈ n_tb := n_a1 200 (by decide +kernel) rfl
theorem wfX9_39 : Cond.fieldLink "ShareMonitor$UserProcess" 39 "ShareMonitor$UserProcess" "next" "I" ∈ n_tb := n_a1 201 (by decide +kernel) rfl
theorem wfX10_128 : Cond.fieldLink "ShareMonitor$Worker" 128 "ShareMonitor$UserProcess" "next" "I" ∈ n_tb := n_a1 202 (by decide +kernel) rfl
theorem wfX11_162 : Cond.fieldLink "ShareMonitor" 162 "ShareMonitor$UserProcess" "next" "I" ∈ n_tb := n_a1 203 (by decide +kernel) rfl
theorem wfX10_61 : Cond.fieldLink "ShareMonitor$Worker" 61 "ShareMonitor$UserProcess" "done" "I" ∈ n_tb := n_a1 204 (by decide +kernel) rfl
theorem wfX9_80 : Cond.fieldLink "ShareMonitor$UserProcess" 80 "ShareMonitor$UserProcess" "done" "I" ∈ n_tb := n_a1 205 (by decide +kernel) rfl
theorem wfX11_187 : Cond.fieldLink "ShareMonitor" 187 "ShareMonitor$UserProcess" "done" "I" ∈ n_tb := n_a1 206 (by decide +kernel) rfl
theorem wfX10_64 : Cond.fieldLink "ShareMonitor$Worker" 64 "ShareMonitor$UserProcess" "streak" "I" ∈ n_tb := n_a1 207 (by decide +kernel) rfl
theorem wfX2_86 : Cond.fieldLink "ShareMonitor$Desk" 86 "ShareMonitor$UserProcess" "streak" "I" ∈ n_tb := n_a1 208 (by decide +kernel) rfl
theorem wfX9_59 : Cond.fieldLink "ShareMonitor$UserProcess" 59 "ShareMonitor$UserProcess" "streak" "I" ∈ n_tb := n_a1 209 (by decide +kernel) rfl
theorem wfX11_193 : Cond.fieldLink "ShareMonitor" 193 "ShareMonitor$UserProcess" "streak" "I" ∈ n_tb := n_a1 210 (by decide +kernel) rfl
theorem wfX2_83 : Cond.fieldLink "ShareMonitor$Desk" 83 "ShareMonitor$UserProcess" "awaited" "I" ∈ n_tb := n_a1 211 (by decide +kernel) rfl
theorem wfX9_62 : Cond.fieldLink "ShareMonitor$UserProcess" 62 "ShareMonitor$UserProcess" "awaited" "I" ∈ n_tb := n_a1 212 (by decide +kernel) rfl
theorem wfX11_190 : Cond.fieldLink "ShareMonitor" 190 "ShareMonitor$UserProcess" "awaited" "I" ∈ n_tb := n_a1 213 (by decide +kernel) rfl
theorem wi_yX5_init : Cond.instanceMethod yX5_init ∈ n_tb := n_a2 9 (by decide +kernel) rfl
set_option maxRecDepth 100000 in
theorem wc_yX5_init : Cond.code yX5_init cX5_init 1 (Option.none : Option Jvm.ClassFile.FieldType) ∈ n_tb := n_a2 10 rfl rfl
theorem wfX5_11 : Cond.fieldLink "ShareMonitor$Program" 11 "ShareMonitor$Program" "ops" "[LShareMonitor$Op;" ∈ n_tb := n_a2 14 (by decide +kernel) rfl
theorem wfX9_47 : Cond.fieldLink "ShareMonitor$UserProcess" 47 "ShareMonitor$Program" "ops" "[LShareMonitor$Op;" ∈ n_tb := n_a2 15 (by decide +kernel) rfl
theorem wfX6_117 : Cond.fieldLink "ShareMonitor$Reader" 117 "ShareMonitor$Program" "ops" "[LShareMonitor$Op;" ∈ n_tb := n_a2 16 (by decide +kernel) rfl
theorem wfX5_17 : Cond.fieldLink "ShareMonitor$Program" 17 "ShareMonitor$Program" "numbers" "[I" ∈ n_tb := n_a2 17 (by decide +kernel) rfl
theorem wfX9_51 : Cond.fieldLink "ShareMonitor$UserProcess" 51 "ShareMonitor$Program" "numbers" "[I" ∈ n_tb := n_a2 18 (by decide +kernel) rfl
theorem wfX6_121 : Cond.fieldLink "ShareMonitor$Reader" 121 "ShareMonitor$Program" "numbers" "[I" ∈ n_tb := n_a2 19 (by decide +kernel) rfl
theorem wfX6_31 : Cond.fieldLink "ShareMonitor$Reader" 31 "ShareMonitor$Program" "size" "I" ∈ n_tb := n_a2 20 (by decide +kernel) rfl
theorem wfX9_42 : Cond.fieldLink "ShareMonitor$UserProcess" 42 "ShareMonitor$Program" "size" "I" ∈ n_tb := n_a2 21 (by decide +kernel) rfl
theorem wfX2_149 : Cond.fieldLink "ShareMonitor$Desk" 149 "ShareMonitor$Program" "size" "I" ∈ n_tb := n_a2 22 (by decide +kernel) rfl
theorem wfX2_69 : Cond.fieldLink "ShareMonitor$Desk" 69 "ShareMonitor$Program" "users" "I" ∈ n_tb := n_a2 23 (by decide +kernel) rfl
theorem wfX9_68 : Cond.fieldLink "ShareMonitor$UserProcess" 68 "ShareMonitor$Program" "users" "I" ∈ n_tb := n_a2 24 (by decide +kernel) rfl
theorem wi_yX7_init : Cond.instanceMethod yX7_init ∈ n_tb := n_a2 36 (by decide +kernel) rfl
set_option maxRecDepth 100000 in
theorem wc_yX7_init : Cond.code yX7_init cX7_init 1 (Option.none : Option Jvm.ClassFile.FieldType) ∈ n_tb := n_a2 37 rfl rfl
theorem wfX7_9 : Cond.fieldLink "ShareMonitor$Row" 9 "ShareMonitor$Row" "members" "[I" ∈ n_tb := n_a2 39 (by decide +kernel) rfl
theorem wfX11_217 : Cond.fieldLink "ShareMonitor" 217 "ShareMonitor$Row" "members" "[I" ∈ n_tb := n_a2 40 (by decide +kernel) rfl
theorem wfX7_15 : Cond.fieldLink "ShareMonitor$Row" 15 "ShareMonitor$Row" "size" "I" ∈ n_tb := n_a2 41 (by decide +kernel) rfl
theorem wfX2_142 : Cond.fieldLink "ShareMonitor$Desk" 142 "ShareMonitor$Row" "size" "I" ∈ n_tb := n_a2 42 (by decide +kernel) rfl
theorem wfX11_212 : Cond.fieldLink "ShareMonitor" 212 "ShareMonitor$Row" "size" "I" ∈ n_tb := n_a2 43 (by decide +kernel) rfl
theorem wfX2_11 : Cond.fieldLink "ShareMonitor$Desk" 11 "ShareMonitor$Desk" "processes" "[LShareMonitor$UserProcess;" ∈ n_tb := n_a2 49 (by decide +kernel) rfl
theorem wfX2_19 : Cond.fieldLink "ShareMonitor$Desk" 19 "ShareMonitor$Desk" "programs" "[LShareMonitor$Program;" ∈ n_tb := n_a2 50 (by decide +kernel) rfl
theorem wfX2_25 : Cond.fieldLink "ShareMonitor$Desk" 25 "ShareMonitor$Desk" "rows" "[LShareMonitor$Row;" ∈ n_tb := n_a2 51 (by decide +kernel) rfl
theorem wfX11_208 : Cond.fieldLink "ShareMonitor" 208 "ShareMonitor$Desk" "rows" "[LShareMonitor$Row;" ∈ n_tb := n_a2 52 (by decide +kernel) rfl
theorem wfX2_29 : Cond.fieldLink "ShareMonitor$Desk" 29 "ShareMonitor$Desk" "values" "[I" ∈ n_tb := n_a2 53 (by decide +kernel) rfl
theorem wfX11_241 : Cond.fieldLink "ShareMonitor" 241 "ShareMonitor$Desk" "values" "[I" ∈ n_tb := n_a2 54 (by decide +kernel) rfl
theorem wfX10_326 : Cond.fieldLink "ShareMonitor$Worker" 326 "ShareMonitor$Desk" "values" "[I" ∈ n_tb := n_a2 55 (by decide +kernel) rfl
theorem wfX2_33 : Cond.fieldLink "ShareMonitor$Desk" 33 "ShareMonitor$Desk" "queues" "[LShareMonitor$Row;" ∈ n_tb := n_a2 56 (by decide +kernel) rfl
theorem wfX11_236 : Cond.fieldLink "ShareMonitor" 236 "ShareMonitor$Desk" "queues" "[LShareMonitor$Row;" ∈ n_tb := n_a2 57 (by decide +kernel) rfl
theorem wfX10_310 : Cond.fieldLink "ShareMonitor$Worker" 310 "ShareMonitor$Desk" "queues" "[LShareMonitor$Row;" ∈ n_tb := n_a2 58 (by decide +kernel) rfl
theorem wfX2_39 : Cond.fieldLink "ShareMonitor$Desk" 39 "ShareMonitor$Desk" "memory" "LShareMonitor$Memory;" ∈ n_tb := n_a2 59 (by decide +kernel) rfl
theorem wfX10_207 : Cond.fieldLink "ShareMonitor$Worker" 207 "ShareMonitor$Desk" "memory" "LShareMonitor$Memory;" ∈ n_tb := n_a2 60 (by decide +kernel) rfl
theorem wfX11_177 : Cond.fieldLink "ShareMonitor" 177 "ShareMonitor$Desk" "memory" "LShareMonitor$Memory;" ∈ n_tb := n_a2 61 (by decide +kernel) rfl
theorem wfX2_43 : Cond.fieldLink "ShareMonitor$Desk" 43 "ShareMonitor$Desk" "console" "[I" ∈ n_tb := n_a2 62 (by decide +kernel) rfl
theorem wfX11_249 : Cond.fieldLink "ShareMonitor" 249 "ShareMonitor$Desk" "console" "[I" ∈ n_tb := n_a2 63 (by decide +kernel) rfl
theorem wfX2_105 : Cond.fieldLink "ShareMonitor$Desk" 105 "ShareMonitor$Desk" "shown" "I" ∈ n_tb := n_a2 64 (by decide +kernel) rfl
theorem wfX11_244 : Cond.fieldLink "ShareMonitor" 244 "ShareMonitor$Desk" "shown" "I" ∈ n_tb := n_a2 65 (by decide +kernel) rfl
theorem wfX2_108 : Cond.fieldLink "ShareMonitor$Desk" 108 "ShareMonitor$Desk" "lost" "I" ∈ n_tb := n_a2 66 (by decide +kernel) rfl
theorem wfX11_257 : Cond.fieldLink "ShareMonitor" 257 "ShareMonitor$Desk" "lost" "I" ∈ n_tb := n_a2 67 (by decide +kernel) rfl
theorem wfX10_19 : Cond.fieldLink "ShareMonitor$Worker" 19 "ShareMonitor$Desk" "clock" "I" ∈ n_tb := n_a2 68 (by decide +kernel) rfl
theorem wfX2_124 : Cond.fieldLink "ShareMonitor$Desk" 124 "ShareMonitor$Desk" "clock" "I" ∈ n_tb := n_a2 69 (by decide +kernel) rfl
theorem wfX11_254 : Cond.fieldLink "ShareMonitor" 254 "ShareMonitor$Desk" "clock" "I" ∈ n_tb := n_a2 70 (by decide +kernel) rfl
theorem wfX2_47 : Cond.fieldLink "ShareMonitor$Desk" 47 "ShareMonitor$Desk" "soonest" "I" ∈ n_tb := n_a2 71 (by decide +kernel) rfl
theorem wfX10_24 : Cond.fieldLink "ShareMonitor$Worker" 24 "ShareMonitor$Desk" "soonest" "I" ∈ n_tb := n_a2 72 (by decide +kernel) rfl
theorem wmX11_34 : Cond.methodLink "ShareMonitor" 34 yX10_init ∈ n_tb := n_a2 98 (by decide +kernel) rfl
theorem wi_yX10_init : Cond.instanceMethod yX10_init ∈ n_tb := n_a2 99 (by decide +kernel) rfl
set_option maxRecDepth 100000 in
theorem wc_yX10_init : Cond.code yX10_init cX10_init 2 (Option.none : Option Jvm.ClassFile.FieldType) ∈ n_tb := n_a2 100 rfl rfl
theorem wfX10_15 : Cond.fieldLink "ShareMonitor$Worker" 15 "ShareMonitor$Worker" "desk" "LShareMonitor$Desk;" ∈ n_tb := n_a2 102 (by decide +kernel) rfl
theorem wfX10_9 : Cond.fieldLink "ShareMonitor$Worker" 9 "ShareMonitor$Worker" "quantum" "I" ∈ n_tb := n_a2 103 (by decide +kernel) rfl
theorem wfX11_103 : Cond.fieldLink "ShareMonitor" 103 "ShareMonitor$Worker" "quantum" "I" ∈ n_tb := n_a2 104 (by decide +kernel) rfl
theorem wfX11_10 : Cond.fieldLink "ShareMonitor" 10 "ShareMonitor" "tape" "LShareMonitor$Tape;" ∈ n_tb := n_a2 110 (by decide +kernel) rfl
theorem wfX11_21 : Cond.fieldLink "ShareMonitor" 21 "ShareMonitor" "reader" "LShareMonitor$Reader;" ∈ n_tb := n_a2 111 (by decide +kernel) rfl
theorem wfX11_28 : Cond.fieldLink "ShareMonitor" 28 "ShareMonitor" "desk" "LShareMonitor$Desk;" ∈ n_tb := n_a2 112 (by decide +kernel) rfl
theorem wfX11_37 : Cond.fieldLink "ShareMonitor" 37 "ShareMonitor" "worker" "LShareMonitor$Worker;" ∈ n_tb := n_a2 113 (by decide +kernel) rfl
theorem wmL_100 : Cond.methodLink "ShareMonitorLaw" 100 yX11_fault ∈ n_tb := n_a2 123 (by decide +kernel) rfl
theorem wi_yX11_fault : Cond.instanceMethod yX11_fault ∈ n_tb := n_a2 124 (by decide +kernel) rfl
theorem wv_yX11_fault : Cond.selects "ShareMonitor" yX11_fault yX11_fault ∈ n_tb := n_a2 125 (by decide +kernel) rfl
set_option maxRecDepth 100000 in
theorem wc_yX11_fault : Cond.code yX11_fault cX11_fault 1 (Option.some Jvm.ClassFile.FieldType.int) ∈ n_tb := n_a2 126 rfl rfl
theorem wmL_104 : Cond.methodLink "ShareMonitorLaw" 104 yX11_tick ∈ n_tb := n_a2 127 (by decide +kernel) rfl
theorem wi_yX11_tick : Cond.instanceMethod yX11_tick ∈ n_tb := n_a2 128 (by decide +kernel) rfl
theorem wv_yX11_tick : Cond.selects "ShareMonitor" yX11_tick yX11_tick ∈ n_tb := n_a2 129 (by decide +kernel) rfl
set_option maxRecDepth 100000 in
theorem wc_yX11_tick : Cond.code yX11_tick cX11_tick 1 (Option.some Jvm.ClassFile.FieldType.int) ∈ n_tb := n_a2 130 rfl rfl
theorem wmX11_95 : Cond.methodLink "ShareMonitor" 95 yX10_advance ∈ n_tb := n_a2 131 (by decide +kernel) rfl
theorem wi_yX10_advance : Cond.instanceMethod yX10_advance ∈ n_tb := n_a2 132 (by decide +kernel) rfl
theorem wv_yX10_advance : Cond.selects "ShareMonitor$Worker" yX10_advance yX10_advance ∈ n_tb := n_a2 133 (by decide +kernel) rfl
set_option maxRecDepth 100000 in
theorem wc_yX10_advance : Cond.code yX10_advance cX10_advance 4 (Option.some Jvm.ClassFile.FieldType.int) ∈ n_tb := n_a2 134 rfl rfl
theorem wmX10_27 : Cond.methodLink "ShareMonitor$Worker" 27 yX2_wakeSleepers ∈ n_tb := n_a2 135 (by decide +kernel) rfl
theorem wi_yX2_wakeSleepers : Cond.instanceMethod yX2_wakeSleepers ∈ n_tb := n_a2 136 (by decide +kernel) rfl
theorem wv_yX2_wakeSleepers : Cond.selects "ShareMonitor$Desk" yX2_wakeSleepers yX2_wakeSleepers ∈ n_tb := n_a2 137 (by decide +kernel) rfl
set_option maxRecDepth 100000 in
theorem wc_yX2_wakeSleepers : Cond.code yX2_wakeSleepers cX2_wakeSleepers 3 (Option.none : Option Jvm.ClassFile.FieldType) ∈ n_tb := n_a2 138 rfl rfl
theorem wmX2_79 : Cond.methodLink "ShareMonitor$Desk" 79 yX2_makeReady ∈ n_tb := n_a2 139 (by decide +kernel) rfl
theorem wi_yX2_makeReady : Cond.instanceMethod yX2_makeReady ∈ n_tb := n_a2 140 (by decide +kernel) rfl
theorem wv_yX2_makeReady : Cond.selects "ShareMonitor$Desk" yX2_makeReady yX2_makeReady ∈ n_tb := n_a2 141 (by decide +kernel) rfl
set_option maxRecDepth 100000 in
theorem wc_yX2_makeReady : Cond.code yX2_makeReady cX2_makeReady 2 (Option.none : Option Jvm.ClassFile.FieldType) ∈ n_tb := n_a2 142 rfl rfl
theorem wmX2_89 : Cond.methodLink "ShareMonitor$Desk" 89 yX7_join ∈ n_tb := n_a2 143 (by decide +kernel) rfl
theorem wi_yX7_join : Cond.instanceMethod yX7_join ∈ n_tb := n_a2 144 (by decide +kernel) rfl
theorem wv_yX7_join : Cond.selects "ShareMonitor$Row" yX7_join yX7_join ∈ n_tb := n_a2 145 (by decide +kernel) rfl
set_option maxRecDepth 100000 in
theorem wc_yX7_join : Cond.code yX7_join cX7_join 2 (Option.none : Option Jvm.ClassFile.FieldType) ∈ n_tb := n_a2 146 rfl rfl
theorem wmX2_135 : Cond.methodLink "ShareMonitor$Desk" 135 yJ9_min_7cf53 ∈ n_tb := n_a2 147 (by decide +kernel) rfl
theorem ws_yJ9_min_7cf53 : Cond.static yJ9_min_7cf53 ∈ n_tb := n_a2 148 (by decide +kernel) rfl
set_option maxRecDepth 100000 in
theorem wc_yJ9_min_7cf53 : Cond.code yJ9_min_7cf53 cJ9_min_7cf53 2 (Option.some Jvm.ClassFile.FieldType.int) ∈ n_tb := n_a2 149 rfl rfl
theorem wmX10_30 : Cond.methodLink "ShareMonitor$Worker" 30 yX2_firstReady ∈ n_tb := n_a2 150 (by decide +kernel) rfl
theorem wi_yX2_firstReady : Cond.instanceMethod yX2_firstReady ∈ n_tb := n_a2 151 (by decide +kernel) rfl
theorem wv_yX2_firstReady : Cond.selects "ShareMonitor$Desk" yX2_firstReady yX2_firstReady ∈ n_tb := n_a2 152 (by decide +kernel) rfl
set_option maxRecDepth 100000 in
theorem wc_yX2_firstReady : Cond.code yX2_firstReady cX2_firstReady 2 (Option.some (Jvm.ClassFile.FieldType.object "ShareMonitor$UserProcess")) ∈ n_tb := n_a2 153 rfl rfl
theorem wmX2_145 : Cond.methodLink "ShareMonitor$Desk" 145 yX7_first ∈ n_tb := n_a2 154 (by decide +kernel) rfl
theorem wi_yX7_first : Cond.instanceMethod yX7_first ∈ n_tb := n_a2 155 (by decide +kernel) rfl
theorem wv_yX7_first : Cond.selects "ShareMonitor$Row" yX7_first yX7_first ∈ n_tb := n_a2 156 (by decide +kernel) rfl
set_option maxRecDepth 100000 in
theorem wc_yX7_first : Cond.code yX7_first cX7_first 1 (Option.some Jvm.ClassFile.FieldType.int) ∈ n_tb := n_a2 157 rfl rfl
theorem wmX2_56 : Cond.methodLink "ShareMonitor$Desk" 56 yX2_find ∈ n_tb := n_a2 158 (by decide +kernel) rfl
theorem wi_yX2_find : Cond.instanceMethod yX2_find ∈ n_tb := n_a2 159 (by decide +kernel) rfl
theorem wv_yX2_find : Cond.selects "ShareMonitor$Desk" yX2_find yX2_find ∈ n_tb := n_a2 160 (by decide +kernel) rfl
set_option maxRecDepth 100000 in
theorem wc_yX2_find : Cond.code yX2_find cX2_find 2 (Option.some (Jvm.ClassFile.FieldType.object "ShareMonitor$UserProcess")) ∈ n_tb := n_a2 161 rfl rfl
theorem wmX10_34 : Cond.methodLink "ShareMonitor$Worker" 34 yX9_nextOp ∈ n_tb := n_a2 162 (by decide +kernel) rfl
theorem wi_yX9_nextOp : Cond.instanceMethod yX9_nextOp ∈ n_tb := n_a2 163 (by decide +kernel) rfl
theorem wv_yX9_nextOp : Cond.selects "ShareMonitor$UserProcess" yX9_nextOp yX9_nextOp ∈ n_tb := n_a2 164 (by decide +kernel) rfl
set_option maxRecDepth 100000 in
theorem wc_yX9_nextOp : Cond.code yX9_nextOp cX9_nextOp 1 (Option.some (Jvm.ClassFile.FieldType.object "ShareMonitor$Op")) ∈ n_tb := n_a2 165 rfl rfl
theorem wmX10_40 : Cond.methodLink "ShareMonitor$Worker" 40 yX10_obstacleTo ∈ n_tb := n_a2 166 (by decide +kernel) rfl
theorem wi_yX10_obstacleTo : Cond.instanceMethod yX10_obstacleTo ∈ n_tb := n_a2 168 (by decide +kernel) rfl
set_option maxRecDepth 100000 in
theorem wc_yX10_obstacleTo : Cond.code yX10_obstacleTo cX10_obstacleTo 3 (Option.some Jvm.ClassFile.FieldType.int) ∈ n_tb := n_a2 169 rfl rfl
theorem wmX10_81 : Cond.methodLink "ShareMonitor$Worker" 81 yX10_mustWait ∈ n_tb := n_a2 170 (by decide +kernel) rfl
theorem wi_yX10_mustWait : Cond.instanceMethod yX10_mustWait ∈ n_tb := n_a2 172 (by decide +kernel) rfl
set_option maxRecDepth 100000 in
theorem wc_yX10_mustWait : Cond.code yX10_mustWait cX10_mustWait 4 (Option.some Jvm.ClassFile.FieldType.boolean) ∈ n_tb := n_a2 173 rfl rfl
theorem wfX10_88 : Cond.fieldLink "ShareMonitor$Worker" 88 "ShareMonitor$Op" "RECV" "LShareMonitor$Op;" ∈ n_tb := n_a2 174 (by decide +kernel) rfl
theorem wmX10_101 : Cond.methodLink "ShareMonitor$Worker" 101 yX2_suspend ∈ n_tb := n_a2 176 (by decide +kernel) rfl
theorem wi_yX2_suspend : Cond.instanceMethod yX2_suspend ∈ n_tb := n_a2 177 (by decide +kernel) rfl
theorem wv_yX2_suspend : Cond.selects "ShareMonitor$Desk" yX2_suspend yX2_suspend ∈ n_tb := n_a2 178 (by decide +kernel) rfl
set_option maxRecDepth 100000 in
theorem wc_yX2_suspend : Cond.code yX2_suspend cX2_suspend 4 (Option.none : Option Jvm.ClassFile.FieldType) ∈ n_tb := n_a2 179 rfl rfl
theorem wmX2_92 : Cond.methodLink "ShareMonitor$Desk" 92 yX7_leave ∈ n_tb := n_a2 180 (by decide +kernel) rfl
theorem wi_yX7_leave : Cond.instanceMethod yX7_leave ∈ n_tb := n_a2 181 (by decide +kernel) rfl
theorem wv_yX7_leave : Cond.selects "ShareMonitor$Row" yX7_leave yX7_leave ∈ n_tb := n_a2 182 (by decide +kernel) rfl
set_option maxRecDepth 100000 in
theorem wc_yX7_leave : Cond.code yX7_leave cX7_leave 4 (Option.none : Option Jvm.ClassFile.FieldType) ∈ n_tb := n_a2 183 rfl rfl
theorem wfX10_105 : Cond.fieldLink "ShareMonitor$Worker" 105 "ShareMonitor$Op" "READKEY" "LShareMonitor$Op;" ∈ n_tb := n_a2 184 (by decide +kernel) rfl
theorem wfX10_111 : Cond.fieldLink "ShareMonitor$Worker" 111 "ShareMonitor$Op" "WAIT" "LShareMonitor$Op;" ∈ n_tb := n_a2 186 (by decide +kernel) rfl
theorem wmX10_114 : Cond.methodLink "ShareMonitor$Worker" 114 yX9_top ∈ n_tb := n_a2 188 (by decide +kernel) rfl
theorem wi_yX9_top : Cond.instanceMethod yX9_top ∈ n_tb := n_a2 189 (by decide +kernel) rfl
theorem wv_yX9_top : Cond.selects "ShareMonitor$UserProcess" yX9_top yX9_top ∈ n_tb := n_a2 190 (by decide +kernel) rfl
set_option maxRecDepth 100000 in
theorem wc_yX9_top : Cond.code yX9_top cX9_top 1 (Option.some Jvm.ClassFile.FieldType.int) ∈ n_tb := n_a2 191 rfl rfl
theorem wmX10_117 : Cond.methodLink "ShareMonitor$Worker" 117 yX2_findChild ∈ n_tb := n_a2 192 (by decide +kernel) rfl
theorem wi_yX2_findChild : Cond.instanceMethod yX2_findChild ∈ n_tb := n_a2 193 (by decide +kernel) rfl
theorem wv_yX2_findChild : Cond.selects "ShareMonitor$Desk" yX2_findChild yX2_findChild ∈ n_tb := n_a2 194 (by decide +kernel) rfl
set_option maxRecDepth 100000 in
theorem wc_yX2_findChild : Cond.code yX2_findChild cX2_findChild 4 (Option.some (Jvm.ClassFile.FieldType.object "ShareMonitor$UserProcess")) ∈ n_tb := n_a2 195 rfl rfl
theorem wmX10_121 : Cond.methodLink "ShareMonitor$Worker" 121 yX9_isAlive ∈ n_tb := n_a2 196 (by decide +kernel) rfl
theorem wi_yX9_isAlive : Cond.instanceMethod yX9_isAlive ∈ n_tb := n_a2 197 (by decide +kernel) rfl
theorem wv_yX9_isAlive : Cond.selects "ShareMonitor$UserProcess" yX9_isAlive yX9_isAlive ∈ n_tb := n_a2 198 (by decide +kernel) rfl
set_option maxRecDepth 100000 in
theorem wc_yX9_isAlive : Cond.code yX9_isAlive cX9_isAlive 1 (Option.some Jvm.ClassFile.FieldType.boolean) ∈ n_tb := n_a2 199 rfl rfl
theorem wmX10_44 : Cond.methodLink "ShareMonitor$Worker" 44 yX10_perform ∈ n_tb := n_a2 200 (by decide +kernel) rfl
theorem wi_yX10_perform : Cond.instanceMethod yX10_perform ∈ n_tb := n_a2 202 (by decide +kernel) rfl
set_option maxRecDepth 100000 in
theorem wc_yX10_perform : Cond.code yX10_perform cX10_perform 4 (Option.some Jvm.ClassFile.FieldType.int) ∈ n_tb := n_a2 203 rfl rfl
theorem wmX10_125 : Cond.methodLink "ShareMonitor$Worker" 125 yX9_nextNumber ∈ n_tb := n_a2 204 (by decide +kernel) rfl
theorem wi_yX9_nextNumber : Cond.instanceMethod yX9_nextNumber ∈ n_tb := n_a2 205 (by decide +kernel) rfl
theorem wv_yX9_nextNumber : Cond.selects "ShareMonitor$UserProcess" yX9_nextNumber yX9_nextNumber ∈ n_tb := n_a2 206 (by decide +kernel) rfl
set_option maxRecDepth 100000 in
theorem wc_yX9_nextNumber : Cond.code yX9_nextNumber cX9_nextNumber 1 (Option.some Jvm.ClassFile.FieldType.int) ∈ n_tb := n_a2 207 rfl rfl
theorem wmX10_134 : Cond.methodLink "ShareMonitor$Worker" 134 yX10_shuffle ∈ n_tb := n_a2 208 (by decide +kernel) rfl
theorem wi_yX10_shuffle : Cond.instanceMethod yX10_shuffle ∈ n_tb := n_a2 210 (by decide +kernel) rfl
set_option maxRecDepth 100000 in
theorem wc_yX10_shuffle : Cond.code yX10_shuffle cX10_shuffle 5 (Option.some Jvm.ClassFile.FieldType.int) ∈ n_tb := n_a2 211 rfl rfl
theorem wfX10_156 : Cond.fieldLink "ShareMonitor$Worker" 156 "ShareMonitor$Op" "NUMBER" "LShareMonitor$Op;" ∈ n_tb := n_a2 212 (by decide +kernel) rfl
theorem wmX10_159 : Cond.methodLink "ShareMonitor$Worker" 159 yX9_push ∈ n_tb := n_a2 214 (by decide +kernel) rfl
theorem wi_yX9_push : Cond.instanceMethod yX9_push ∈ n_tb := n_a2 215 (by decide +kernel) rfl
theorem wv_yX9_push : Cond.selects "ShareMonitor$UserProcess" yX9_push yX9_push ∈ n_tb := n_a2 216 (by decide +kernel) rfl
set_option maxRecDepth 100000 in
theorem wc_yX9_push : Cond.code yX9_push cX9_push 2 (Option.none : Option Jvm.ClassFile.FieldType) ∈ n_tb := n_a2 217 rfl rfl
theorem wmX10_57 : Cond.methodLink "ShareMonitor$Worker" 57 yX9_pop ∈ n_tb := n_a2 218 (by decide +kernel) rfl
theorem wi_yX9_pop : Cond.instanceMethod yX9_pop ∈ n_tb := n_a2 219 (by decide +kernel) rfl
theorem wv_yX9_pop : Cond.selects "ShareMonitor$UserProcess" yX9_pop yX9_pop ∈ n_tb := n_a2 220 (by decide +kernel) rfl
set_option maxRecDepth 100000 in
theorem wc_yX9_pop : Cond.code yX9_pop cX9_pop 1 (Option.some Jvm.ClassFile.FieldType.int) ∈ n_tb := n_a2 221 rfl rfl
theorem wfX10_163 : Cond.fieldLink "ShareMonitor$Worker" 163 "ShareMonitor$Op" "NOT" "LShareMonitor$Op;" ∈ n_tb := n_a2 222 (by decide +kernel) rfl
theorem wfX10_166 : Cond.fieldLink "ShareMonitor$Worker" 166 "ShareMonitor$Op" "DUP" "LShareMonitor$Op;" ∈ n_tb := n_a2 224 (by decide +kernel) rfl
theorem wfX10_169 : Cond.fieldLink "ShareMonitor$Worker" 169 "ShareMonitor$Op" "DROP" "LShareMonitor$Op;" ∈ n_tb := n_a2 226 (by decide +kernel) rfl
theorem wmX10_172 : Cond.methodLink "ShareMonitor$Worker" 172 yX10_shuffleSeveral ∈ n_tb := n_a2 228 (by decide +kernel) rfl
theorem wi_yX10_shuffleSeveral : Cond.instanceMethod yX10_shuffleSeveral ∈ n_tb := n_a2 230 (by decide +kernel) rfl
set_option maxRecDepth 100000 in
theorem wc_yX10_shuffleSeveral : Cond.code yX10_shuffleSeveral cX10_shuffleSeveral 6 (Option.none : Option Jvm.ClassFile.FieldType) ∈ n_tb := n_a2 231 rfl rfl
theorem wfX10_176 : Cond.fieldLink "ShareMonitor$Worker" 176 "ShareMonitor$Op" "SWAP" "LShareMonitor$Op;" ∈ n_tb := n_a2 232 (by decide +kernel) rfl
theorem wfX10_179 : Cond.fieldLink "ShareMonitor$Worker" 179 "ShareMonitor$Op" "OVER" "LShareMonitor$Op;" ∈ n_tb := n_a2 234 (by decide +kernel) rfl
theorem wmX10_138 : Cond.methodLink "ShareMonitor$Worker" 138 yX10_compute ∈ n_tb := n_a2 236 (by decide +kernel) rfl
theorem wi_yX10_compute : Cond.instanceMethod yX10_compute ∈ n_tb := n_a2 238 (by decide +kernel) rfl
set_option maxRecDepth 100000 in
theorem wc_yX10_compute : Cond.code yX10_compute cX10_compute 5 (Option.some Jvm.ClassFile.FieldType.int) ∈ n_tb := n_a2 239 rfl rfl
theorem wfX10_182 : Cond.fieldLink "ShareMonitor$Worker" 182 "ShareMonitor$Op" "DIVIDE" "LShareMonitor$Op;" ∈ n_tb := n_a3 0 (by decide +kernel) rfl
theorem wfX10_185 : Cond.fieldLink "ShareMonitor$Worker" 185 "ShareMonitor$Op" "REST" "LShareMonitor$Op;" ∈ n_tb := n_a3 2 (by decide +kernel) rfl
theorem wmX10_188 : Cond.methodLink "ShareMonitor$Worker" 188 yX10_resultOf ∈ n_tb := n_a3 4 (by decide +kernel) rfl
theorem ws_yX10_resultOf : Cond.static yX10_resultOf ∈ n_tb := n_a3 5 (by decide +kernel) rfl
set_option maxRecDepth 100000 in
theorem wc_yX10_resultOf : Cond.code yX10_resultOf cX10_resultOf 3 (Option.some Jvm.ClassFile.FieldType.int) ∈ n_tb := n_a3 6 rfl rfl
theorem wfX10_192 : Cond.fieldLink "ShareMonitor$Worker" 192 "ShareMonitor$1" "$SwitchMap$ShareMonitor$Op" "[I" ∈ n_tb := n_a3 7 (by decide +kernel) rfl
theorem wmX10_141 : Cond.methodLink "ShareMonitor$Worker" 141 yX10_follow ∈ n_tb := n_a3 15 (by decide +kernel) rfl
theorem wi_yX10_follow : Cond.instanceMethod yX10_follow ∈ n_tb := n_a3 17 (by decide +kernel) rfl
set_option maxRecDepth 100000 in
theorem wc_yX10_follow : Cond.code yX10_follow cX10_follow 4 (Option.some Jvm.ClassFile.FieldType.int) ∈ n_tb := n_a3 18 rfl rfl
theorem wmX10_144 : Cond.methodLink "ShareMonitor$Worker" 144 yX10_useMemory ∈ n_tb := n_a3 19 (by decide +kernel) rfl
theorem wi_yX10_useMemory : Cond.instanceMethod yX10_useMemory ∈ n_tb := n_a3 21 (by decide +kernel) rfl
set_option maxRecDepth 100000 in
theorem wc_yX10_useMemory : Cond.code yX10_useMemory cX10_useMemory 5 (Option.some Jvm.ClassFile.FieldType.int) ∈ n_tb := n_a3 22 rfl rfl
theorem wmX10_211 : Cond.methodLink "ShareMonitor$Worker" 211 yX3_holds ∈ n_tb := n_a3 23 (by decide +kernel) rfl
theorem wi_yX3_holds : Cond.instanceMethod yX3_holds ∈ n_tb := n_a3 24 (by decide +kernel) rfl
theorem wv_yX3_holds : Cond.selects "ShareMonitor$Memory" yX3_holds yX3_holds ∈ n_tb := n_a3 25 (by decide +kernel) rfl
set_option maxRecDepth 100000 in
theorem wc_yX3_holds : Cond.code yX3_holds cX3_holds 3 (Option.some Jvm.ClassFile.FieldType.boolean) ∈ n_tb := n_a3 26 rfl rfl
theorem wmX10_220 : Cond.methodLink "ShareMonitor$Worker" 220 yX3_take ∈ n_tb := n_a3 27 (by decide +kernel) rfl
theorem wi_yX3_take : Cond.instanceMethod yX3_take ∈ n_tb := n_a3 28 (by decide +kernel) rfl
theorem wv_yX3_take : Cond.selects "ShareMonitor$Memory" yX3_take yX3_take ∈ n_tb := n_a3 29 (by decide +kernel) rfl
set_option maxRecDepth 100000 in
theorem wc_yX3_take : Cond.code yX3_take cX3_take 4 (Option.some Jvm.ClassFile.FieldType.int) ∈ n_tb := n_a3 30 rfl rfl
theorem wmX3_21 : Cond.methodLink "ShareMonitor$Memory" 21 yX3_cut ∈ n_tb := n_a3 31 (by decide +kernel) rfl
theorem wi_yX3_cut : Cond.instanceMethod yX3_cut ∈ n_tb := n_a3 33 (by decide +kernel) rfl
set_option maxRecDepth 100000 in
theorem wc_yX3_cut : Cond.code yX3_cut cX3_cut 6 (Option.none : Option Jvm.ClassFile.FieldType) ∈ n_tb := n_a3 34 rfl rfl
theorem wmX3_31 : Cond.methodLink "ShareMonitor$Memory" 31 yJ7_fill_fda19 ∈ n_tb := n_a3 35 (by decide +kernel) rfl
theorem ws_yJ7_fill_fda19 : Cond.static yJ7_fill_fda19 ∈ n_tb := n_a3 36 (by decide +kernel) rfl
set_option maxRecDepth 100000 in
theorem wc_yJ7_fill_fda19 : Cond.code yJ7_fill_fda19 cJ7_fill_fda19 5 (Option.none : Option Jvm.ClassFile.FieldType) ∈ n_tb := n_a3 37 rfl rfl
theorem wmJ7_13 : Cond.methodLink "java/util/Arrays" 13 yJ7_rangeCheck_23922 ∈ n_tb := n_a3 38 (by decide +kernel) rfl
theorem ws_yJ7_rangeCheck_23922 : Cond.static yJ7_rangeCheck_23922 ∈ n_tb := n_a3 39 (by decide +kernel) rfl
set_option maxRecDepth 100000 in
theorem wc_yJ7_rangeCheck_23922 : Cond.code yJ7_rangeCheck_23922 cJ7_rangeCheck_23922 3 (Option.none : Option Jvm.ClassFile.FieldType) ∈ n_tb := n_a3 40 rfl rfl
theorem wmJ7_47 : Cond.methodLink "java/util/Arrays" 47 yJ4_init_da8c8 ∈ n_tb := n_a3 86 (by decide +kernel) rfl
theorem wi_yJ4_init_da8c8 : Cond.instanceMethod yJ4_init_da8c8 ∈ n_tb := n_a3 87 (by decide +kernel) rfl
set_option maxRecDepth 100000 in
theorem wc_yJ4_init_da8c8 : Cond.code yJ4_init_da8c8 cJ4_init_da8c8 1 (Option.none : Option Jvm.ClassFile.FieldType) ∈ n_tb := n_a3 88 rfl rfl
theorem wmJ4_1 : Cond.methodLink "java/lang/StringBuilder" 1 yJ5_init_d00df ∈ n_tb := n_a3 89 (by decide +kernel) rfl
theorem wi_yJ5_init_d00df : Cond.instanceMethod yJ5_init_d00df ∈ n_tb := n_a3 90 (by decide +kernel) rfl
set_option maxRecDepth 100000 in
theorem wc_yJ5_init_d00df : Cond.code yJ5_init_d00df cJ5_init_d00df 2 (Option.none : Option Jvm.ClassFile.FieldType) ∈ n_tb := n_a3 91 rfl rfl
theorem wfJ5_18 : Cond.fieldLink "java/lang/AbstractStringBuilder" 18 "java/lang/String" "COMPACT_STRINGS" "Z" ∈ n_tb := n_a3 93 (by decide +kernel) rfl
theorem wmJ5_26 : Cond.methodLink "java/lang/AbstractStringBuilder" 26 yJ2_newBytesFor_77867 ∈ n_tb := n_a3 95 (by decide +kernel) rfl
theorem ws_yJ2_newBytesFor_77867 : Cond.static yJ2_newBytesFor_77867 ∈ n_tb := n_a3 96 (by decide +kernel) rfl
set_option maxRecDepth 100000 in
theorem wc_yJ2_newBytesFor_77867 : Cond.code yJ2_newBytesFor_77867 cJ2_newBytesFor_77867 1 (Option.some (Jvm.ClassFile.FieldType.array Jvm.ClassFile.FieldType.byte)) ∈ n_tb := n_a3 97 rfl rfl
theorem wmJ2_11 : Cond.methodLink "java/lang/StringUTF16" 11 yJ2_newBytesLength_0f7a4 ∈ n_tb := n_a3 98 (by decide +kernel) rfl
theorem ws_yJ2_newBytesLength_0f7a4 : Cond.static yJ2_newBytesLength_0f7a4 ∈ n_tb := n_a3 99 (by decide +kernel) rfl
set_option maxRecDepth 100000 in
theorem wc_yJ2_newBytesLength_0f7a4 : Cond.code yJ2_newBytesLength_0f7a4 cJ2_newBytesLength_0f7a4 1 (Option.some Jvm.ClassFile.FieldType.int) ∈ n_tb := n_a3 100 rfl rfl
theorem wfJ5_15 : Cond.fieldLink "java/lang/AbstractStringBuilder" 15 "java/lang/AbstractStringBuilder" "value" "[B" ∈ n_tb := n_a3 102 (by decide +kernel) rfl
theorem wfJ5_22 : Cond.fieldLink "java/lang/AbstractStringBuilder" 22 "java/lang/AbstractStringBuilder" "coder" "B" ∈ n_tb := n_a3 103 (by decide +kernel) rfl
theorem wfJ0_1048 : Cond.fieldLink "java/lang/String" 1048 "java/lang/AbstractStringBuilder" "maybeLatin1" "Z" ∈ n_tb := n_a3 104 (by decide +kernel) rfl
theorem wfJ5_79 : Cond.fieldLink "java/lang/AbstractStringBuilder" 79 "java/lang/AbstractStringBuilder" "count" "I" ∈ n_tb := n_a3 105 (by decide +kernel) rfl
theorem wmJ7_50 : Cond.methodLink "java/util/Arrays" 50 yJ4_append_15ec4 ∈ n_tb := n_a3 116 (by decide +kernel) rfl
theorem wi_yJ4_append_15ec4 : Cond.instanceMethod yJ4_append_15ec4 ∈ n_tb := n_a3 117 (by decide +kernel) rfl
theorem wv_yJ4_append_15ec4 : Cond.selects "java/lang/StringBuilder" yJ4_append_15ec4 yJ4_append_15ec4 ∈ n_tb := n_a3 118 (by decide +kernel) rfl
set_option maxRecDepth 100000 in
theorem wc_yJ4_append_15ec4 : Cond.code yJ4_append_15ec4 cJ4_append_15ec4 2 (Option.some (Jvm.ClassFile.FieldType.object "java/lang/StringBuilder")) ∈ n_tb := n_a3 119 rfl rfl
theorem wmJ4_29 : Cond.methodLink "java/lang/StringBuilder" 29 yJ5_append_cf1ce ∈ n_tb := n_a3 120 (by decide +kernel) rfl
theorem wi_yJ5_append_cf1ce : Cond.instanceMethod yJ5_append_cf1ce ∈ n_tb := n_a3 121 (by decide +kernel) rfl
set_option maxRecDepth 100000 in
theorem wc_yJ5_append_cf1ce : Cond.code yJ5_append_cf1ce cJ5_append_cf1ce 3 (Option.some (Jvm.ClassFile.FieldType.object "java/lang/AbstractStringBuilder")) ∈ n_tb := n_a3 122 rfl rfl
theorem wmJ5_204 : Cond.methodLink "java/lang/AbstractStringBuilder" 204 yJ5_appendNull_278bc ∈ n_tb := n_a3 123 (by decide +kernel) rfl
theorem wi_yJ5_appendNull_278bc : Cond.instanceMethod yJ5_appendNull_278bc ∈ n_tb := n_a3 125 (by decide +kernel) rfl
set_option maxRecDepth 100000 in
theorem wc_yJ5_appendNull_278bc : Cond.code yJ5_appendNull_278bc cJ5_appendNull_278bc 3 (Option.some (Jvm.ClassFile.FieldType.object "java/lang/AbstractStringBuilder")) ∈ n_tb := n_a3 126 rfl rfl
theorem wmJ5_100 : Cond.methodLink "java/lang/AbstractStringBuilder" 100 yJ5_ensureCapacityInternal_d00df ∈ n_tb := n_a3 127 (by decide +kernel) rfl
theorem wi_yJ5_ensureCapacityInternal_d00df : Cond.instanceMethod yJ5_ensureCapacityInternal_d00df ∈ n_tb := n_a3 129 (by decide +kernel) rfl
set_option maxRecDepth 100000 in
theorem wc_yJ5_ensureCapacityInternal_d00df : Cond.code yJ5_ensureCapacityInternal_d00df cJ5_ensureCapacityInternal_d00df 3 (Option.none : Option Jvm.ClassFile.FieldType) ∈ n_tb := n_a3 130 rfl rfl
theorem wmJ5_104 : Cond.methodLink "java/lang/AbstractStringBuilder" 104 yJ5_newCapacity_0f7a4 ∈ n_tb := n_a3 131 (by decide +kernel) rfl
theorem wi_yJ5_newCapacity_0f7a4 : Cond.instanceMethod yJ5_newCapacity_0f7a4 ∈ n_tb := n_a3 133 (by decide +kernel) rfl
set_option maxRecDepth 100000 in
theorem wc_yJ5_newCapacity_0f7a4 : Cond.code yJ5_newCapacity_0f7a4 cJ5_newCapacity_0f7a4 6 (Option.some Jvm.ClassFile.FieldType.int) ∈ n_tb := n_a3 134 rfl rfl
theorem wmJ5_114 : Cond.methodLink "java/lang/AbstractStringBuilder" 114 yJ8_newLength_cabcc ∈ n_tb := n_a3 135 (by decide +kernel) rfl
theorem ws_yJ8_newLength_cabcc : Cond.static yJ8_newLength_cabcc ∈ n_tb := n_a3 136 (by decide +kernel) rfl
set_option maxRecDepth 100000 in
theorem wc_yJ8_newLength_cabcc : Cond.code yJ8_newLength_cabcc cJ8_newLength_cabcc 4 (Option.some Jvm.ClassFile.FieldType.int) ∈ n_tb := n_a3 137 rfl rfl
theorem wmJ8_194 : Cond.methodLink "jdk/internal/util/ArraysSupport" 194 yJ9_max_7cf53 ∈ n_tb := n_a3 138 (by decide +kernel) rfl
theorem ws_yJ9_max_7cf53 : Cond.static yJ9_max_7cf53 ∈ n_tb := n_a3 139 (by decide +kernel) rfl
set_option maxRecDepth 100000 in
theorem wc_yJ9_max_7cf53 : Cond.code yJ9_max_7cf53 cJ9_max_7cf53 2 (Option.some Jvm.ClassFile.FieldType.int) ∈ n_tb := n_a3 140 rfl rfl
theorem wmJ8_201 : Cond.methodLink "jdk/internal/util/ArraysSupport" 201 yJ8_hugeLength_7cf53 ∈ n_tb := n_a3 142 (by decide +kernel) rfl
theorem ws_yJ8_hugeLength_7cf53 : Cond.static yJ8_hugeLength_7cf53 ∈ n_tb := n_a3 143 (by decide +kernel) rfl
set_option maxRecDepth 100000 in
theorem wc_yJ8_hugeLength_7cf53 : Cond.code yJ8_hugeLength_7cf53 cJ8_hugeLength_7cf53 3 (Option.some Jvm.ClassFile.FieldType.int) ∈ n_tb := n_a3 144 rfl rfl
theorem wmJ5_108 : Cond.methodLink "java/lang/AbstractStringBuilder" 108 yJ7_copyOf_9075b ∈ n_tb := n_a3 146 (by decide +kernel) rfl
theorem ws_yJ7_copyOf_9075b : Cond.static yJ7_copyOf_9075b ∈ n_tb := n_a3 147 (by decide +kernel) rfl
set_option maxRecDepth 100000 in
theorem wc_yJ7_copyOf_9075b : Cond.code yJ7_copyOf_9075b cJ7_copyOf_9075b 3 (Option.some (Jvm.ClassFile.FieldType.array Jvm.ClassFile.FieldType.byte)) ∈ n_tb := n_a3 148 rfl rfl
theorem wmJ7_304 : Cond.methodLink "java/util/Arrays" 304 yJ9_min_7cf53 ∈ n_tb := n_a3 156 (by decide +kernel) rfl
theorem wmJ5_83 : Cond.methodLink "java/lang/AbstractStringBuilder" 83 yJ5_isLatin1_aae02 ∈ n_tb := n_a3 160 (by decide +kernel) rfl
theorem wi_yJ5_isLatin1_aae02 : Cond.instanceMethod yJ5_isLatin1_aae02 ∈ n_tb := n_a3 161 (by decide +kernel) rfl
set_option maxRecDepth 100000 in
theorem wc_yJ5_isLatin1_aae02 : Cond.code yJ5_isLatin1_aae02 cJ5_isLatin1_aae02 1 (Option.some Jvm.ClassFile.FieldType.boolean) ∈ n_tb := n_a3 164 rfl rfl
theorem wmJ5_226 : Cond.methodLink "java/lang/AbstractStringBuilder" 226 yJ2_putCharsAt_cd4e5 ∈ n_tb := n_a3 165 (by decide +kernel) rfl
theorem ws_yJ2_putCharsAt_cd4e5 : Cond.static yJ2_putCharsAt_cd4e5 ∈ n_tb := n_a3 166 (by decide +kernel) rfl
set_option maxRecDepth 100000 in
theorem wc_yJ2_putCharsAt_cd4e5 : Cond.code yJ2_putCharsAt_cd4e5 cJ2_putCharsAt_cd4e5 7 (Option.some Jvm.ClassFile.FieldType.int) ∈ n_tb := n_a3 167 rfl rfl
theorem wmJ2_96 : Cond.methodLink "java/lang/StringUTF16" 96 yJ2_checkBoundsBeginEnd_d044e ∈ n_tb := n_a3 168 (by decide +kernel) rfl
theorem ws_yJ2_checkBoundsBeginEnd_d044e : Cond.static yJ2_checkBoundsBeginEnd_d044e ∈ n_tb := n_a3 169 (by decide +kernel) rfl
set_option maxRecDepth 100000 in
theorem wc_yJ2_checkBoundsBeginEnd_d044e : Cond.code yJ2_checkBoundsBeginEnd_d044e cJ2_checkBoundsBeginEnd_d044e 3 (Option.none : Option Jvm.ClassFile.FieldType) ∈ n_tb := n_a3 170 rfl rfl
theorem wmJ2_48 : Cond.methodLink "java/lang/StringUTF16" 48 yJ2_length_9d52b ∈ n_tb := n_a3 171 (by decide +kernel) rfl
theorem ws_yJ2_length_9d52b : Cond.static yJ2_length_9d52b ∈ n_tb := n_a3 172 (by decide +kernel) rfl
set_option maxRecDepth 100000 in
theorem wc_yJ2_length_9d52b : Cond.code yJ2_length_9d52b cJ2_length_9d52b 1 (Option.some Jvm.ClassFile.FieldType.int) ∈ n_tb := n_a3 173 rfl rfl
theorem wmJ2_241 : Cond.methodLink "java/lang/StringUTF16" 241 yJ0_checkBoundsBeginEnd_23922 ∈ n_tb := n_a3 174 (by decide +kernel) rfl
theorem ws_yJ0_checkBoundsBeginEnd_23922 : Cond.static yJ0_checkBoundsBeginEnd_23922 ∈ n_tb := n_a3 175 (by decide +kernel) rfl
set_option maxRecDepth 100000 in
theorem wc_yJ0_checkBoundsBeginEnd_23922 : Cond.code yJ0_checkBoundsBeginEnd_23922 cJ0_checkBoundsBeginEnd_23922 3 (Option.none : Option Jvm.ClassFile.FieldType) ∈ n_tb := n_a3 176 rfl rfl
theorem wfJ0_1053 : Cond.fieldLink "java/lang/String" 1053 "jdk/internal/util/Preconditions" "SIOOBE_FORMATTER" "Ljava/util/function/BiFunction;" ∈ n_tb := n_a3 177 (by decide +kernel) rfl
theorem wmJ0_1062 : Cond.methodLink "java/lang/String" 1062 yJ3_checkFromToIndex_8c36e ∈ n_tb := n_a3 179 (by decide +kernel) rfl
theorem ws_yJ3_checkFromToIndex_8c36e : Cond.static yJ3_checkFromToIndex_8c36e ∈ n_tb := n_a3 180 (by decide +kernel) rfl
set_option maxRecDepth 100000 in
theorem wc_yJ3_checkFromToIndex_8c36e : Cond.code yJ3_checkFromToIndex_8c36e cJ3_checkFromToIndex_8c36e 4 (Option.some Jvm.ClassFile.FieldType.int) ∈ n_tb := n_a3 181 rfl rfl
theorem wmJ2_111 : Cond.methodLink "java/lang/StringUTF16" 111 yJ2_putChar_b72d1 ∈ n_tb := n_a3 182 (by decide +kernel) rfl
theorem ws_yJ2_putChar_b72d1 : Cond.static yJ2_putChar_b72d1 ∈ n_tb := n_a3 183 (by decide +kernel) rfl
set_option maxRecDepth 100000 in
theorem wc_yJ2_putChar_b72d1 : Cond.code yJ2_putChar_b72d1 cJ2_putChar_b72d1 3 (Option.none : Option Jvm.ClassFile.FieldType) ∈ n_tb := n_a3 184 rfl rfl
theorem wfJ2_44 : Cond.fieldLink "java/lang/StringUTF16" 44 "java/lang/StringUTF16" "$assertionsDisabled" "Z" ∈ n_tb := n_a3 185 (by decide +kernel) rfl
theorem wfJ2_59 : Cond.fieldLink "java/lang/StringUTF16" 59 "java/lang/StringUTF16" "HI_BYTE_SHIFT" "I" ∈ n_tb := n_a3 187 (by decide +kernel) rfl
theorem wfJ2_63 : Cond.fieldLink "java/lang/StringUTF16" 63 "java/lang/StringUTF16" "LO_BYTE_SHIFT" "I" ∈ n_tb := n_a3 189 (by decide +kernel) rfl
theorem wmJ5_32 : Cond.methodLink "java/lang/AbstractStringBuilder" 32 yJ0_length_8abf5 ∈ n_tb := n_a3 191 (by decide +kernel) rfl
theorem wi_yJ0_length_8abf5 : Cond.instanceMethod yJ0_length_8abf5 ∈ n_tb := n_a3 192 (by decide +kernel) rfl
theorem wv_yJ0_length_8abf5 : Cond.selects "java/lang/String" yJ0_length_8abf5 yJ0_length_8abf5 ∈ n_tb := n_a3 193 (by decide +kernel) rfl
set_option maxRecDepth 100000 in
theorem wc_yJ0_length_8abf5 : Cond.code yJ0_length_8abf5 cJ0_length_8abf5 1 (Option.some Jvm.ClassFile.FieldType.int) ∈ n_tb := n_a3 194 rfl rfl
theorem wmJ0_335 : Cond.methodLink "java/lang/String" 335 yJ0_coder_7d493 ∈ n_tb := n_a3 195 (by decide +kernel) rfl
theorem wi_yJ0_coder_7d493 : Cond.instanceMethod yJ0_coder_7d493 ∈ n_tb := n_a3 196 (by decide +kernel) rfl
theorem wv_yJ0_coder_7d493 : Cond.selects "java/lang/String" yJ0_coder_7d493 yJ0_coder_7d493 ∈ n_tb := n_a3 197 (by decide +kernel) rfl
set_option maxRecDepth 100000 in
theorem wc_yJ0_coder_7d493 : Cond.code yJ0_coder_7d493 cJ0_coder_7d493 1 (Option.some Jvm.ClassFile.FieldType.byte) ∈ n_tb := n_a3 198 rfl rfl
theorem wfJ0_38 : Cond.fieldLink "java/lang/String" 38 "java/lang/String" "COMPACT_STRINGS" "Z" ∈ n_tb := n_a3 199 (by decide +kernel) rfl
theorem wmJ5_208 : Cond.methodLink "java/lang/AbstractStringBuilder" 208 yJ5_putStringAt_47b60 ∈ n_tb := n_a3 200 (by decide +kernel) rfl
theorem wi_yJ5_putStringAt_47b60 : Cond.instanceMethod yJ5_putStringAt_47b60 ∈ n_tb := n_a3 202 (by decide +kernel) rfl
set_option maxRecDepth 100000 in
theorem wc_yJ5_putStringAt_47b60 : Cond.code yJ5_putStringAt_47b60 cJ5_putStringAt_47b60 3 (Option.none : Option Jvm.ClassFile.FieldType) ∈ n_tb := n_a3 203 rfl rfl
theorem wmJ5_397 : Cond.methodLink "java/lang/AbstractStringBuilder" 397 yJ5_inflateIfNeededFor_a7421 ∈ n_tb := n_a3 204 (by decide +kernel) rfl
theorem wi_yJ5_inflateIfNeededFor_a7421 : Cond.instanceMethod yJ5_inflateIfNeededFor_a7421 ∈ n_tb := n_a3 206 (by decide +kernel) rfl
set_option maxRecDepth 100000 in
theorem wc_yJ5_inflateIfNeededFor_a7421 : Cond.code yJ5_inflateIfNeededFor_a7421 cJ5_inflateIfNeededFor_a7421 2 (Option.none : Option Jvm.ClassFile.FieldType) ∈ n_tb := n_a3 207 rfl rfl
theorem wmJ5_40 : Cond.methodLink "java/lang/AbstractStringBuilder" 40 yJ0_coder_7d493 ∈ n_tb := n_a3 208 (by decide +kernel) rfl
theorem wmJ5_195 : Cond.methodLink "java/lang/AbstractStringBuilder" 195 yJ5_inflate_da8c8 ∈ n_tb := n_a3 209 (by decide +kernel) rfl
theorem wi_yJ5_inflate_da8c8 : Cond.instanceMethod yJ5_inflate_da8c8 ∈ n_tb := n_a3 211 (by decide +kernel) rfl
set_option maxRecDepth 100000 in
theorem wc_yJ5_inflate_da8c8 : Cond.code yJ5_inflate_da8c8 cJ5_inflate_da8c8 2 (Option.none : Option Jvm.ClassFile.FieldType) ∈ n_tb := n_a3 212 rfl rfl
theorem wmJ5_125 : Cond.methodLink "java/lang/AbstractStringBuilder" 125 yJ1_inflate_0e8fd ∈ n_tb := n_a3 213 (by decide +kernel) rfl
theorem ws_yJ1_inflate_0e8fd : Cond.static yJ1_inflate_0e8fd ∈ n_tb := n_a3 214 (by decide +kernel) rfl
set_option maxRecDepth 100000 in
theorem wc_yJ1_inflate_0e8fd : Cond.code yJ1_inflate_0e8fd cJ1_inflate_0e8fd 5 (Option.none : Option Jvm.ClassFile.FieldType) ∈ n_tb := n_a3 215 rfl rfl
theorem wmJ1_240 : Cond.methodLink "java/lang/StringLatin1" 240 yJ2_inflate_0e8fd ∈ n_tb := n_a3 216 (by decide +kernel) rfl
theorem ws_yJ2_inflate_0e8fd : Cond.static yJ2_inflate_0e8fd ∈ n_tb := n_a3 217 (by decide +kernel) rfl
set_option maxRecDepth 100000 in
theorem wc_yJ2_inflate_0e8fd : Cond.code yJ2_inflate_0e8fd cJ2_inflate_0e8fd 6 (Option.none : Option Jvm.ClassFile.FieldType) ∈ n_tb := n_a3 218 rfl rfl
theorem wmJ2_173 : Cond.methodLink "java/lang/StringUTF16" 173 yJ2_checkBoundsOffCount_d044e ∈ n_tb := n_a3 219 (by decide +kernel) rfl
theorem ws_yJ2_checkBoundsOffCount_d044e : Cond.static yJ2_checkBoundsOffCount_d044e ∈ n_tb := n_a3 220 (by decide +kernel) rfl
set_option maxRecDepth 100000 in
theorem wc_yJ2_checkBoundsOffCount_d044e : Cond.code yJ2_checkBoundsOffCount_d044e cJ2_checkBoundsOffCount_d044e 3 (Option.none : Option Jvm.ClassFile.FieldType) ∈ n_tb := n_a3 221 rfl rfl
theorem wmJ2_419 : Cond.methodLink "java/lang/StringUTF16" 419 yJ0_checkBoundsOffCount_cabcc ∈ n_tb := n_a3 222 (by decide +kernel) rfl
theorem ws_yJ0_checkBoundsOffCount_cabcc : Cond.static yJ0_checkBoundsOffCount_cabcc ∈ n_tb := n_a3 223 (by decide +kernel) rfl
set_option maxRecDepth 100000 in
theorem wc_yJ0_checkBoundsOffCount_cabcc : Cond.code yJ0_checkBoundsOffCount_cabcc cJ0_checkBoundsOffCount_cabcc 3 (Option.some Jvm.ClassFile.FieldType.int) ∈ n_tb := n_a3 224 rfl rfl
theorem wmJ0_1065 : Cond.methodLink "java/lang/String" 1065 yJ3_checkFromIndexSize_8c36e ∈ n_tb := n_a3 225 (by decide +kernel) rfl
theorem ws_yJ3_checkFromIndexSize_8c36e : Cond.static yJ3_checkFromIndexSize_8c36e ∈ n_tb := n_a3 226 (by decide +kernel) rfl
set_option maxRecDepth 100000 in
theorem wc_yJ3_checkFromIndexSize_8c36e : Cond.code yJ3_checkFromIndexSize_8c36e cJ3_checkFromIndexSize_8c36e 4 (Option.some Jvm.ClassFile.FieldType.int) ∈ n_tb := n_a3 227 rfl rfl
theorem wmJ5_399 : Cond.methodLink "java/lang/AbstractStringBuilder" 399 yJ0_getBytes_840e7 ∈ n_tb := n_a3 228 (by decide +kernel) rfl
theorem wi_yJ0_getBytes_840e7 : Cond.instanceMethod yJ0_getBytes_840e7 ∈ n_tb := n_a3 229 (by decide +kernel) rfl
theorem wv_yJ0_getBytes_840e7 : Cond.selects "java/lang/String" yJ0_getBytes_840e7 yJ0_getBytes_840e7 ∈ n_tb := n_a3 230 (by decide +kernel) rfl
set_option maxRecDepth 100000 in
theorem wc_yJ0_getBytes_840e7 : Cond.code yJ0_getBytes_840e7 cJ0_getBytes_840e7 4 (Option.none : Option Jvm.ClassFile.FieldType) ∈ n_tb := n_a3 231 rfl rfl
theorem wmJ0_106 : Cond.methodLink "java/lang/String" 106 yJ1_inflate_0e8fd ∈ n_tb := n_a3 233 (by decide +kernel) rfl
theorem wmJ7_54 : Cond.methodLink "java/util/Arrays" 54 yJ4_append_bf812 ∈ n_tb := n_a3 234 (by decide +kernel) rfl
theorem wi_yJ4_append_bf812 : Cond.instanceMethod yJ4_append_bf812 ∈ n_tb := n_a3 235 (by decide +kernel) rfl
theorem wv_yJ4_append_bf812 : Cond.selects "java/lang/StringBuilder" yJ4_append_bf812 yJ4_append_bf812 ∈ n_tb := n_a3 236 (by decide +kernel) rfl
set_option maxRecDepth 100000 in
theorem wc_yJ4_append_bf812 : Cond.code yJ4_append_bf812 cJ4_append_bf812 2 (Option.some (Jvm.ClassFile.FieldType.object "java/lang/StringBuilder")) ∈ n_tb := n_a3 237 rfl rfl
theorem wmJ4_53 : Cond.methodLink "java/lang/StringBuilder" 53 yJ5_append_c97b9 ∈ n_tb := n_a3 238 (by decide +kernel) rfl
theorem wi_yJ5_append_c97b9 : Cond.instanceMethod yJ5_append_c97b9 ∈ n_tb := n_a3 239 (by decide +kernel) rfl
set_option maxRecDepth 100000 in
theorem wc_yJ5_append_c97b9 : Cond.code yJ5_append_c97b9 cJ5_append_c97b9 4 (Option.some (Jvm.ClassFile.FieldType.object "java/lang/AbstractStringBuilder")) ∈ n_tb := n_a4 0 rfl rfl
theorem wmJ5_245 : Cond.methodLink "java/lang/AbstractStringBuilder" 245 yJ6_stringSize_0f7a4 ∈ n_tb := n_a4 1 (by decide +kernel) rfl
theorem ws_yJ6_stringSize_0f7a4 : Cond.static yJ6_stringSize_0f7a4 ∈ n_tb := n_a4 2 (by decide +kernel) rfl
set_option maxRecDepth 100000 in
theorem wc_yJ6_stringSize_0f7a4 : Cond.code yJ6_stringSize_0f7a4 cJ6_stringSize_0f7a4 4 (Option.some Jvm.ClassFile.FieldType.int) ∈ n_tb := n_a4 3 rfl rfl
theorem wmJ5_248 : Cond.methodLink "java/lang/AbstractStringBuilder" 248 yJ6_getChars_ba4f3 ∈ n_tb := n_a4 4 (by decide +kernel) rfl
theorem ws_yJ6_getChars_ba4f3 : Cond.static yJ6_getChars_ba4f3 ∈ n_tb := n_a4 5 (by decide +kernel) rfl
set_option maxRecDepth 100000 in
theorem wc_yJ6_getChars_ba4f3 : Cond.code yJ6_getChars_ba4f3 cJ6_getChars_ba4f3 7 (Option.some Jvm.ClassFile.FieldType.int) ∈ n_tb := n_a4 6 rfl rfl
theorem wfJ6_83 : Cond.fieldLink "java/lang/Integer" 83 "java/lang/Integer" "DigitOnes" "[B" ∈ n_tb := n_a4 7 (by decide +kernel) rfl
theorem wfJ6_87 : Cond.fieldLink "java/lang/Integer" 87 "java/lang/Integer" "DigitTens" "[B" ∈ n_tb := n_a4 9 (by decide +kernel) rfl
theorem wmJ5_251 : Cond.methodLink "java/lang/AbstractStringBuilder" 251 yJ2_getChars_46870 ∈ n_tb := n_a4 11 (by decide +kernel) rfl
theorem ws_yJ2_getChars_46870 : Cond.static yJ2_getChars_46870 ∈ n_tb := n_a4 12 (by decide +kernel) rfl
set_option maxRecDepth 100000 in
theorem wc_yJ2_getChars_46870 : Cond.code yJ2_getChars_46870 cJ2_getChars_46870 5 (Option.some Jvm.ClassFile.FieldType.int) ∈ n_tb := n_a4 13 rfl rfl
theorem wmJ2_393 : Cond.methodLink "java/lang/StringUTF16" 393 yJ2_getChars_ba4f3 ∈ n_tb := n_a4 14 (by decide +kernel) rfl
theorem ws_yJ2_getChars_ba4f3 : Cond.static yJ2_getChars_ba4f3 ∈ n_tb := n_a4 15 (by decide +kernel) rfl
set_option maxRecDepth 100000 in
theorem wc_yJ2_getChars_ba4f3 : Cond.code yJ2_getChars_ba4f3 cJ2_getChars_ba4f3 7 (Option.some Jvm.ClassFile.FieldType.int) ∈ n_tb := n_a4 16 rfl rfl
theorem wfJ2_403 : Cond.fieldLink "java/lang/StringUTF16" 403 "java/lang/Integer" "DigitOnes" "[B" ∈ n_tb := n_a4 17 (by decide +kernel) rfl
theorem wfJ2_407 : Cond.fieldLink "java/lang/StringUTF16" 407 "java/lang/Integer" "DigitTens" "[B" ∈ n_tb := n_a4 18 (by decide +kernel) rfl
theorem wmJ7_61 : Cond.methodLink "java/util/Arrays" 61 yJ4_toString_0e30d ∈ n_tb := n_a4 21 (by decide +kernel) rfl
theorem wi_yJ4_toString_0e30d : Cond.instanceMethod yJ4_toString_0e30d ∈ n_tb := n_a4 22 (by decide +kernel) rfl
theorem wv_yJ4_toString_0e30d : Cond.selects "java/lang/StringBuilder" yJ4_toString_0e30d yJ4_toString_0e30d ∈ n_tb := n_a4 23 (by decide +kernel) rfl
set_option maxRecDepth 100000 in
theorem wc_yJ4_toString_0e30d : Cond.code yJ4_toString_0e30d cJ4_toString_0e30d 1 (Option.some (Jvm.ClassFile.FieldType.object "java/lang/String")) ∈ n_tb := n_a4 24 rfl rfl
theorem wmJ4_137 : Cond.methodLink "java/lang/StringBuilder" 137 yJ0_init_81219 ∈ n_tb := n_a4 27 (by decide +kernel) rfl
theorem wi_yJ0_init_81219 : Cond.instanceMethod yJ0_init_81219 ∈ n_tb := n_a4 28 (by decide +kernel) rfl
set_option maxRecDepth 100000 in
theorem wc_yJ0_init_81219 : Cond.code yJ0_init_81219 cJ0_init_81219 2 (Option.none : Option Jvm.ClassFile.FieldType) ∈ n_tb := n_a4 29 rfl rfl
theorem wmJ0_489 : Cond.methodLink "java/lang/String" 489 yJ0_init_db425 ∈ n_tb := n_a4 30 (by decide +kernel) rfl
theorem wi_yJ0_init_db425 : Cond.instanceMethod yJ0_init_db425 ∈ n_tb := n_a4 31 (by decide +kernel) rfl
set_option maxRecDepth 100000 in
theorem wc_yJ0_init_db425 : Cond.code yJ0_init_db425 cJ0_init_db425 5 (Option.none : Option Jvm.ClassFile.FieldType) ∈ n_tb := n_a4 32 rfl rfl
theorem wmJ0_552 : Cond.methodLink "java/lang/String" 552 yJ5_getValue_6d5f1 ∈ n_tb := n_a4 34 (by decide +kernel) rfl
theorem wi_yJ5_getValue_6d5f1 : Cond.instanceMethod yJ5_getValue_6d5f1 ∈ n_tb := n_a4 35 (by decide +kernel) rfl
set_option maxRecDepth 100000 in
theorem wc_yJ5_getValue_6d5f1 : Cond.code yJ5_getValue_6d5f1 cJ5_getValue_6d5f1 1 (Option.some (Jvm.ClassFile.FieldType.array Jvm.ClassFile.FieldType.byte)) ∈ n_tb := n_a4 38 rfl rfl
theorem wmJ0_549 : Cond.methodLink "java/lang/String" 549 yJ5_length_8abf5 ∈ n_tb := n_a4 39 (by decide +kernel) rfl
theorem wi_yJ5_length_8abf5 : Cond.instanceMethod yJ5_length_8abf5 ∈ n_tb := n_a4 40 (by decide +kernel) rfl
theorem wi_yJ4_length_8abf5 : Cond.instanceMethod yJ4_length_8abf5 ∈ n_tb := n_a4 43 (by decide +kernel) rfl
set_option maxRecDepth 100000 in
theorem wc_yJ4_length_8abf5 : Cond.code yJ4_length_8abf5 cJ4_length_8abf5 1 (Option.some Jvm.ClassFile.FieldType.int) ∈ n_tb := n_a4 44 rfl rfl
theorem wmJ4_343 : Cond.methodLink "java/lang/StringBuilder" 343 yJ5_length_8abf5 ∈ n_tb := n_a4 45 (by decide +kernel) rfl
set_option maxRecDepth 100000 in
theorem wc_yJ5_length_8abf5 : Cond.code yJ5_length_8abf5 cJ5_length_8abf5 1 (Option.some Jvm.ClassFile.FieldType.int) ∈ n_tb := n_a4 46 rfl rfl
theorem wmJ0_1047 : Cond.methodLink "java/lang/String" 1047 yJ5_isLatin1_aae02 ∈ n_tb := n_a4 47 (by decide +kernel) rfl
theorem wmJ0_54 : Cond.methodLink "java/lang/String" 54 yJ7_copyOfRange_39247 ∈ n_tb := n_a4 48 (by decide +kernel) rfl
theorem ws_yJ7_copyOfRange_39247 : Cond.static yJ7_copyOfRange_39247 ∈ n_tb := n_a4 49 (by decide +kernel) rfl
set_option maxRecDepth 100000 in
theorem wc_yJ7_copyOfRange_39247 : Cond.code yJ7_copyOfRange_39247 cJ7_copyOfRange_39247 3 (Option.some (Jvm.ClassFile.FieldType.array Jvm.ClassFile.FieldType.byte)) ∈ n_tb := n_a4 50 rfl rfl
theorem wmJ7_339 : Cond.methodLink "java/util/Arrays" 339 yJ7_copyOfRangeByte_39247 ∈ n_tb := n_a4 51 (by decide +kernel) rfl
theorem ws_yJ7_copyOfRangeByte_39247 : Cond.static yJ7_copyOfRangeByte_39247 ∈ n_tb := n_a4 52 (by decide +kernel) rfl
set_option maxRecDepth 100000 in
theorem wc_yJ7_copyOfRangeByte_39247 : Cond.code yJ7_copyOfRangeByte_39247 cJ7_copyOfRangeByte_39247 5 (Option.some (Jvm.ClassFile.FieldType.array Jvm.ClassFile.FieldType.byte)) ∈ n_tb := n_a4 53 rfl rfl
theorem wmJ7_343 : Cond.methodLink "java/util/Arrays" 343 yJ7_checkLength_df160 ∈ n_tb := n_a4 54 (by decide +kernel) rfl
theorem ws_yJ7_checkLength_df160 : Cond.static yJ7_checkLength_df160 ∈ n_tb := n_a4 55 (by decide +kernel) rfl
set_option maxRecDepth 100000 in
theorem wc_yJ7_checkLength_df160 : Cond.code yJ7_checkLength_df160 cJ7_checkLength_df160 2 (Option.none : Option Jvm.ClassFile.FieldType) ∈ n_tb := n_a4 56 rfl rfl
theorem wmJ0_1051 : Cond.methodLink "java/lang/String" 1051 yJ2_compress_39247 ∈ n_tb := n_a4 83 (by decide +kernel) rfl
theorem ws_yJ2_compress_39247 : Cond.static yJ2_compress_39247 ∈ n_tb := n_a4 84 (by decide +kernel) rfl
set_option maxRecDepth 100000 in
theorem wc_yJ2_compress_39247 : Cond.code yJ2_compress_39247 cJ2_compress_39247 6 (Option.some (Jvm.ClassFile.FieldType.array Jvm.ClassFile.FieldType.byte)) ∈ n_tb := n_a4 85 rfl rfl
theorem wmJ2_123 : Cond.methodLink "java/lang/StringUTF16" 123 yJ2_compress_5af95 ∈ n_tb := n_a4 86 (by decide +kernel) rfl
theorem ws_yJ2_compress_5af95 : Cond.static yJ2_compress_5af95 ∈ n_tb := n_a4 87 (by decide +kernel) rfl
set_option maxRecDepth 100000 in
theorem wc_yJ2_compress_5af95 : Cond.code yJ2_compress_5af95 cJ2_compress_5af95 7 (Option.some Jvm.ClassFile.FieldType.int) ∈ n_tb := n_a4 88 rfl rfl
theorem wmJ2_71 : Cond.methodLink "java/lang/StringUTF16" 71 yJ2_getChar_3b067 ∈ n_tb := n_a4 89 (by decide +kernel) rfl
theorem ws_yJ2_getChar_3b067 : Cond.static yJ2_getChar_3b067 ∈ n_tb := n_a4 90 (by decide +kernel) rfl
set_option maxRecDepth 100000 in
theorem wc_yJ2_getChar_3b067 : Cond.code yJ2_getChar_3b067 cJ2_getChar_3b067 2 (Option.some Jvm.ClassFile.FieldType.char) ∈ n_tb := n_a4 91 rfl rfl
theorem wmJ2_126 : Cond.methodLink "java/lang/StringUTF16" 126 yJ7_copyOfRange_39247 ∈ n_tb := n_a4 92 (by decide +kernel) rfl
theorem wmJ0_47 : Cond.methodLink "java/lang/String" 47 yJ2_coderFromArrayLen_85cad ∈ n_tb := n_a4 93 (by decide +kernel) rfl
theorem ws_yJ2_coderFromArrayLen_85cad : Cond.static yJ2_coderFromArrayLen_85cad ∈ n_tb := n_a4 94 (by decide +kernel) rfl
set_option maxRecDepth 100000 in
theorem wc_yJ2_coderFromArrayLen_85cad : Cond.code yJ2_coderFromArrayLen_85cad cJ2_coderFromArrayLen_85cad 2 (Option.some Jvm.ClassFile.FieldType.byte) ∈ n_tb := n_a4 95 rfl rfl
theorem wfJ0_9 : Cond.fieldLink "java/lang/String" 9 "java/lang/String" "value" "[B" ∈ n_tb := n_a4 96 (by decide +kernel) rfl
theorem wfJ0_15 : Cond.fieldLink "java/lang/String" 15 "java/lang/String" "coder" "B" ∈ n_tb := n_a4 97 (by decide +kernel) rfl
theorem wmX3_25 : Cond.methodLink "ShareMonitor$Memory" 25 yJ9_max_7cf53 ∈ n_tb := n_a4 129 (by decide +kernel) rfl
theorem wmX10_224 : Cond.methodLink "ShareMonitor$Worker" 224 yX10_release ∈ n_tb := n_a4 130 (by decide +kernel) rfl
theorem wi_yX10_release : Cond.instanceMethod yX10_release ∈ n_tb := n_a4 132 (by decide +kernel) rfl
set_option maxRecDepth 100000 in
theorem wc_yX10_release : Cond.code yX10_release cX10_release 3 (Option.some Jvm.ClassFile.FieldType.int) ∈ n_tb := n_a4 133 rfl rfl
theorem wmX10_236 : Cond.methodLink "ShareMonitor$Worker" 236 yX3_holdsFrom ∈ n_tb := n_a4 134 (by decide +kernel) rfl
theorem wi_yX3_holdsFrom : Cond.instanceMethod yX3_holdsFrom ∈ n_tb := n_a4 135 (by decide +kernel) rfl
theorem wv_yX3_holdsFrom : Cond.selects "ShareMonitor$Memory" yX3_holdsFrom yX3_holdsFrom ∈ n_tb := n_a4 136 (by decide +kernel) rfl
set_option maxRecDepth 100000 in
theorem wc_yX3_holdsFrom : Cond.code yX3_holdsFrom cX3_holdsFrom 3 (Option.some Jvm.ClassFile.FieldType.boolean) ∈ n_tb := n_a4 137 rfl rfl
theorem wmX3_37 : Cond.methodLink "ShareMonitor$Memory" 37 yX3_holds ∈ n_tb := n_a4 138 (by decide +kernel) rfl
theorem wmX10_239 : Cond.methodLink "ShareMonitor$Worker" 239 yX3_regain ∈ n_tb := n_a4 139 (by decide +kernel) rfl
theorem wi_yX3_regain : Cond.instanceMethod yX3_regain ∈ n_tb := n_a4 140 (by decide +kernel) rfl
theorem wv_yX3_regain : Cond.selects "ShareMonitor$Memory" yX3_regain yX3_regain ∈ n_tb := n_a4 141 (by decide +kernel) rfl
set_option maxRecDepth 100000 in
theorem wc_yX3_regain : Cond.code yX3_regain cX3_regain 6 (Option.none : Option Jvm.ClassFile.FieldType) ∈ n_tb := n_a4 142 rfl rfl
theorem wmX3_41 : Cond.methodLink "ShareMonitor$Memory" 41 yJ9_min_7cf53 ∈ n_tb := n_a4 143 (by decide +kernel) rfl
theorem wmX10_228 : Cond.methodLink "ShareMonitor$Worker" 228 yX2_find ∈ n_tb := n_a4 144 (by decide +kernel) rfl
theorem wmX10_232 : Cond.methodLink "ShareMonitor$Worker" 232 yX10_give ∈ n_tb := n_a4 145 (by decide +kernel) rfl
theorem wi_yX10_give : Cond.instanceMethod yX10_give ∈ n_tb := n_a4 147 (by decide +kernel) rfl
set_option maxRecDepth 100000 in
theorem wc_yX10_give : Cond.code yX10_give cX10_give 4 (Option.some Jvm.ClassFile.FieldType.int) ∈ n_tb := n_a4 148 rfl rfl
theorem wmX10_243 : Cond.methodLink "ShareMonitor$Worker" 243 yX3_hand ∈ n_tb := n_a4 149 (by decide +kernel) rfl
theorem wi_yX3_hand : Cond.instanceMethod yX3_hand ∈ n_tb := n_a4 150 (by decide +kernel) rfl
theorem wv_yX3_hand : Cond.selects "ShareMonitor$Memory" yX3_hand yX3_hand ∈ n_tb := n_a4 151 (by decide +kernel) rfl
set_option maxRecDepth 100000 in
theorem wc_yX3_hand : Cond.code yX3_hand cX3_hand 4 (Option.none : Option Jvm.ClassFile.FieldType) ∈ n_tb := n_a4 152 rfl rfl
theorem wmX10_147 : Cond.methodLink "ShareMonitor$Worker" 147 yX10_talk ∈ n_tb := n_a4 153 (by decide +kernel) rfl
theorem wi_yX10_talk : Cond.instanceMethod yX10_talk ∈ n_tb := n_a4 155 (by decide +kernel) rfl
set_option maxRecDepth 100000 in
theorem wc_yX10_talk : Cond.code yX10_talk cX10_talk 4 (Option.some Jvm.ClassFile.FieldType.int) ∈ n_tb := n_a4 156 rfl rfl
theorem wmX10_246 : Cond.methodLink "ShareMonitor$Worker" 246 yX10_send ∈ n_tb := n_a4 157 (by decide +kernel) rfl
theorem wi_yX10_send : Cond.instanceMethod yX10_send ∈ n_tb := n_a4 159 (by decide +kernel) rfl
set_option maxRecDepth 100000 in
theorem wc_yX10_send : Cond.code yX10_send cX10_send 4 (Option.some Jvm.ClassFile.FieldType.int) ∈ n_tb := n_a4 160 rfl rfl
theorem wmX10_261 : Cond.methodLink "ShareMonitor$Worker" 261 yX2_deliver ∈ n_tb := n_a4 161 (by decide +kernel) rfl
theorem wi_yX2_deliver : Cond.instanceMethod yX2_deliver ∈ n_tb := n_a4 162 (by decide +kernel) rfl
theorem wv_yX2_deliver : Cond.selects "ShareMonitor$Desk" yX2_deliver yX2_deliver ∈ n_tb := n_a4 163 (by decide +kernel) rfl
set_option maxRecDepth 100000 in
theorem wc_yX2_deliver : Cond.code yX2_deliver cX2_deliver 4 (Option.some Jvm.ClassFile.FieldType.boolean) ∈ n_tb := n_a4 164 rfl rfl
theorem wmX2_99 : Cond.methodLink "ShareMonitor$Desk" 99 yX1_put ∈ n_tb := n_a4 165 (by decide +kernel) rfl
theorem wi_yX1_put : Cond.instanceMethod yX1_put ∈ n_tb := n_a4 166 (by decide +kernel) rfl
theorem wv_yX1_put : Cond.selects "ShareMonitor$Box" yX1_put yX1_put ∈ n_tb := n_a4 167 (by decide +kernel) rfl
set_option maxRecDepth 100000 in
theorem wc_yX1_put : Cond.code yX1_put cX1_put 3 (Option.some Jvm.ClassFile.FieldType.boolean) ∈ n_tb := n_a4 168 rfl rfl
theorem wmX10_255 : Cond.methodLink "ShareMonitor$Worker" 255 yX1_dropFirst ∈ n_tb := n_a4 169 (by decide +kernel) rfl
theorem wi_yX1_dropFirst : Cond.instanceMethod yX1_dropFirst ∈ n_tb := n_a4 170 (by decide +kernel) rfl
theorem wv_yX1_dropFirst : Cond.selects "ShareMonitor$Box" yX1_dropFirst yX1_dropFirst ∈ n_tb := n_a4 171 (by decide +kernel) rfl
set_option maxRecDepth 100000 in
theorem wc_yX1_dropFirst : Cond.code yX1_dropFirst cX1_dropFirst 2 (Option.none : Option Jvm.ClassFile.FieldType) ∈ n_tb := n_a4 172 rfl rfl
theorem wmX10_258 : Cond.methodLink "ShareMonitor$Worker" 258 yX2_show ∈ n_tb := n_a4 173 (by decide +kernel) rfl
theorem wi_yX2_show : Cond.instanceMethod yX2_show ∈ n_tb := n_a4 174 (by decide +kernel) rfl
theorem wv_yX2_show : Cond.selects "ShareMonitor$Desk" yX2_show yX2_show ∈ n_tb := n_a4 175 (by decide +kernel) rfl
set_option maxRecDepth 100000 in
theorem wc_yX2_show : Cond.code yX2_show cX2_show 2 (Option.none : Option Jvm.ClassFile.FieldType) ∈ n_tb := n_a4 176 rfl rfl
theorem wmX10_150 : Cond.methodLink "ShareMonitor$Worker" 150 yX10_useChildren ∈ n_tb := n_a4 177 (by decide +kernel) rfl
theorem wi_yX10_useChildren : Cond.instanceMethod yX10_useChildren ∈ n_tb := n_a4 179 (by decide +kernel) rfl
set_option maxRecDepth 100000 in
theorem wc_yX10_useChildren : Cond.code yX10_useChildren cX10_useChildren 6 (Option.some Jvm.ClassFile.FieldType.int) ∈ n_tb := n_a4 180 rfl rfl
theorem wmX10_265 : Cond.methodLink "ShareMonitor$Worker" 265 yX10_spawn ∈ n_tb := n_a4 181 (by decide +kernel) rfl
theorem wi_yX10_spawn : Cond.instanceMethod yX10_spawn ∈ n_tb := n_a4 183 (by decide +kernel) rfl
set_option maxRecDepth 100000 in
theorem wc_yX10_spawn : Cond.code yX10_spawn cX10_spawn 4 (Option.some Jvm.ClassFile.FieldType.int) ∈ n_tb := n_a4 184 rfl rfl
theorem wmX10_272 : Cond.methodLink "ShareMonitor$Worker" 272 yX2_leastFree ∈ n_tb := n_a4 185 (by decide +kernel) rfl
theorem wi_yX2_leastFree : Cond.instanceMethod yX2_leastFree ∈ n_tb := n_a4 186 (by decide +kernel) rfl
theorem wv_yX2_leastFree : Cond.selects "ShareMonitor$Desk" yX2_leastFree yX2_leastFree ∈ n_tb := n_a4 187 (by decide +kernel) rfl
set_option maxRecDepth 100000 in
theorem wc_yX2_leastFree : Cond.code yX2_leastFree cX2_leastFree 2 (Option.some (Jvm.ClassFile.FieldType.object "ShareMonitor$UserProcess")) ∈ n_tb := n_a4 188 rfl rfl
theorem wmX10_279 : Cond.methodLink "ShareMonitor$Worker" 279 yX2_taken ∈ n_tb := n_a4 189 (by decide +kernel) rfl
theorem wi_yX2_taken : Cond.instanceMethod yX2_taken ∈ n_tb := n_a4 190 (by decide +kernel) rfl
theorem wv_yX2_taken : Cond.selects "ShareMonitor$Desk" yX2_taken yX2_taken ∈ n_tb := n_a4 191 (by decide +kernel) rfl
set_option maxRecDepth 100000 in
theorem wc_yX2_taken : Cond.code yX2_taken cX2_taken 4 (Option.none : Option Jvm.ClassFile.FieldType) ∈ n_tb := n_a4 192 rfl rfl
theorem wmX10_268 : Cond.methodLink "ShareMonitor$Worker" 268 yX10_collect ∈ n_tb := n_a4 193 (by decide +kernel) rfl
theorem wi_yX10_collect : Cond.instanceMethod yX10_collect ∈ n_tb := n_a4 195 (by decide +kernel) rfl
set_option maxRecDepth 100000 in
theorem wc_yX10_collect : Cond.code yX10_collect cX10_collect 3 (Option.none : Option Jvm.ClassFile.FieldType) ∈ n_tb := n_a4 196 rfl rfl
theorem wmX10_289 : Cond.methodLink "ShareMonitor$Worker" 289 yX9_vanish ∈ n_tb := n_a4 197 (by decide +kernel) rfl
theorem wi_yX9_vanish : Cond.instanceMethod yX9_vanish ∈ n_tb := n_a4 198 (by decide +kernel) rfl
theorem wv_yX9_vanish : Cond.selects "ShareMonitor$UserProcess" yX9_vanish yX9_vanish ∈ n_tb := n_a4 199 (by decide +kernel) rfl
set_option maxRecDepth 100000 in
theorem wc_yX9_vanish : Cond.code yX9_vanish cX9_vanish 1 (Option.none : Option Jvm.ClassFile.FieldType) ∈ n_tb := n_a4 200 rfl rfl
theorem wmX9_65 : Cond.methodLink "ShareMonitor$UserProcess" 65 yX9_empty ∈ n_tb := n_a4 201 (by decide +kernel) rfl
theorem wi_yX9_empty : Cond.instanceMethod yX9_empty ∈ n_tb := n_a4 202 (by decide +kernel) rfl
theorem wv_yX9_empty : Cond.selects "ShareMonitor$UserProcess" yX9_empty yX9_empty ∈ n_tb := n_a4 203 (by decide +kernel) rfl
set_option maxRecDepth 100000 in
theorem wc_yX9_empty : Cond.code yX9_empty cX9_empty 1 (Option.none : Option Jvm.ClassFile.FieldType) ∈ n_tb := n_a4 204 rfl rfl
theorem wmX10_54 : Cond.methodLink "ShareMonitor$Worker" 54 yX2_finish ∈ n_tb := n_a4 205 (by decide +kernel) rfl
theorem wi_yX2_finish : Cond.instanceMethod yX2_finish ∈ n_tb := n_a4 206 (by decide +kernel) rfl
theorem wv_yX2_finish : Cond.selects "ShareMonitor$Desk" yX2_finish yX2_finish ∈ n_tb := n_a4 207 (by decide +kernel) rfl
set_option maxRecDepth 100000 in
theorem wc_yX2_finish : Cond.code yX2_finish cX2_finish 5 (Option.none : Option Jvm.ClassFile.FieldType) ∈ n_tb := n_a4 208 rfl rfl
theorem wmX2_111 : Cond.methodLink "ShareMonitor$Desk" 111 yX3_regain ∈ n_tb := n_a4 209 (by decide +kernel) rfl
theorem wmX2_115 : Cond.methodLink "ShareMonitor$Desk" 115 yX9_empty ∈ n_tb := n_a4 210 (by decide +kernel) rfl
theorem wmX2_118 : Cond.methodLink "ShareMonitor$Desk" 118 yX9_vanish ∈ n_tb := n_a4 211 (by decide +kernel) rfl
theorem wmX10_153 : Cond.methodLink "ShareMonitor$Worker" 153 yX10_takeTurn ∈ n_tb := n_a4 212 (by decide +kernel) rfl
theorem wi_yX10_takeTurn : Cond.instanceMethod yX10_takeTurn ∈ n_tb := n_a4 214 (by decide +kernel) rfl
set_option maxRecDepth 100000 in
theorem wc_yX10_takeTurn : Cond.code yX10_takeTurn cX10_takeTurn 4 (Option.some Jvm.ClassFile.FieldType.int) ∈ n_tb := n_a4 215 rfl rfl
theorem wfX10_292 : Cond.fieldLink "ShareMonitor$Worker" 292 "ShareMonitor$Op" "YIELD" "LShareMonitor$Op;" ∈ n_tb := n_a4 216 (by decide +kernel) rfl
theorem wmX10_70 : Cond.methodLink "ShareMonitor$Worker" 70 yX2_putLast ∈ n_tb := n_a4 218 (by decide +kernel) rfl
theorem wi_yX2_putLast : Cond.instanceMethod yX2_putLast ∈ n_tb := n_a4 219 (by decide +kernel) rfl
theorem wv_yX2_putLast : Cond.selects "ShareMonitor$Desk" yX2_putLast yX2_putLast ∈ n_tb := n_a4 220 (by decide +kernel) rfl
set_option maxRecDepth 100000 in
theorem wc_yX2_putLast : Cond.code yX2_putLast cX2_putLast 3 (Option.none : Option Jvm.ClassFile.FieldType) ∈ n_tb := n_a4 221 rfl rfl
theorem wfX10_295 : Cond.fieldLink "ShareMonitor$Worker" 295 "ShareMonitor$Op" "DOWN" "LShareMonitor$Op;" ∈ n_tb := n_a4 222 (by decide +kernel) rfl
theorem wfX10_298 : Cond.fieldLink "ShareMonitor$Worker" 298 "ShareMonitor$Op" "UP" "LShareMonitor$Op;" ∈ n_tb := n_a4 224 (by decide +kernel) rfl
theorem wmX10_301 : Cond.methodLink "ShareMonitor$Worker" 301 yX10_useSemaphore ∈ n_tb := n_a4 226 (by decide +kernel) rfl
theorem wi_yX10_useSemaphore : Cond.instanceMethod yX10_useSemaphore ∈ n_tb := n_a4 228 (by decide +kernel) rfl
set_option maxRecDepth 100000 in
theorem wc_yX10_useSemaphore : Cond.code yX10_useSemaphore cX10_useSemaphore 6 (Option.some Jvm.ClassFile.FieldType.int) ∈ n_tb := n_a4 229 rfl rfl
theorem wmX10_314 : Cond.methodLink "ShareMonitor$Worker" 314 yX7_first ∈ n_tb := n_a4 230 (by decide +kernel) rfl
theorem wmX10_319 : Cond.methodLink "ShareMonitor$Worker" 319 yX7_leave ∈ n_tb := n_a4 231 (by decide +kernel) rfl
theorem wmX10_322 : Cond.methodLink "ShareMonitor$Worker" 322 yX2_makeReady ∈ n_tb := n_a4 232 (by decide +kernel) rfl
theorem wmX10_330 : Cond.methodLink "ShareMonitor$Worker" 330 yX7_join ∈ n_tb := n_a4 234 (by decide +kernel) rfl
theorem wfX10_304 : Cond.fieldLink "ShareMonitor$Worker" 304 "ShareMonitor$Op" "LEVEL" "LShareMonitor$Op;" ∈ n_tb := n_a4 235 (by decide +kernel) rfl
theorem wmX10_307 : Cond.methodLink "ShareMonitor$Worker" 307 yX2_putToSleep ∈ n_tb := n_a4 237 (by decide +kernel) rfl
theorem wi_yX2_putToSleep : Cond.instanceMethod yX2_putToSleep ∈ n_tb := n_a4 238 (by decide +kernel) rfl
theorem wv_yX2_putToSleep : Cond.selects "ShareMonitor$Desk" yX2_putToSleep yX2_putToSleep ∈ n_tb := n_a4 239 (by decide +kernel) rfl
set_option maxRecDepth 100000 in
theorem wc_yX2_putToSleep : Cond.code yX2_putToSleep cX2_putToSleep 4 (Option.none : Option Jvm.ClassFile.FieldType) ∈ n_tb := n_a5 0 rfl rfl
theorem wmX2_129 : Cond.methodLink "ShareMonitor$Desk" 129 yJ9_min_f86c9 ∈ n_tb := n_a5 2 (by decide +kernel) rfl
theorem ws_yJ9_min_f86c9 : Cond.static yJ9_min_f86c9 ∈ n_tb := n_a5 3 (by decide +kernel) rfl
set_option maxRecDepth 100000 in
theorem wc_yJ9_min_f86c9 : Cond.code yJ9_min_f86c9 cJ9_min_f86c9 4 (Option.some Jvm.ClassFile.FieldType.long) ∈ n_tb := n_a5 4 rfl rfl
theorem wmX2_138 : Cond.methodLink "ShareMonitor$Desk" 138 yX2_suspend ∈ n_tb := n_a5 5 (by decide +kernel) rfl
theorem wmX10_47 : Cond.methodLink "ShareMonitor$Worker" 47 yX10_settle ∈ n_tb := n_a5 6 (by decide +kernel) rfl
theorem wi_yX10_settle : Cond.instanceMethod yX10_settle ∈ n_tb := n_a5 8 (by decide +kernel) rfl
set_option maxRecDepth 100000 in
theorem wc_yX10_settle : Cond.code yX10_settle cX10_settle 3 (Option.none : Option Jvm.ClassFile.FieldType) ∈ n_tb := n_a5 9 rfl rfl
theorem wmL_82 : Cond.methodLink "ShareMonitorLaw" 82 yL_feed ∈ n_tb := n_a5 10 (by decide +kernel) rfl
theorem ws_yL_feed : Cond.static yL_feed ∈ n_tb := n_a5 11 (by decide +kernel) rfl
theorem wmL_7 : Cond.methodLink "ShareMonitorLaw" 7 yX11_feed ∈ n_tb := n_a5 14 (by decide +kernel) rfl
theorem wi_yX11_feed : Cond.instanceMethod yX11_feed ∈ n_tb := n_a5 15 (by decide +kernel) rfl
theorem wv_yX11_feed : Cond.selects "ShareMonitor" yX11_feed yX11_feed ∈ n_tb := n_a5 16 (by decide +kernel) rfl
set_option maxRecDepth 100000 in
theorem wc_yX11_feed : Cond.code yX11_feed cX11_feed 6 (Option.some Jvm.ClassFile.FieldType.int) ∈ n_tb := n_a5 17 rfl rfl
theorem wmX11_52 : Cond.methodLink "ShareMonitor" 52 yX8_append ∈ n_tb := n_a5 34 (by decide +kernel) rfl
theorem wi_yX8_append : Cond.instanceMethod yX8_append ∈ n_tb := n_a5 35 (by decide +kernel) rfl
theorem wv_yX8_append : Cond.selects "ShareMonitor$Tape" yX8_append yX8_append ∈ n_tb := n_a5 36 (by decide +kernel) rfl
set_option maxRecDepth 100000 in
theorem wc_yX8_append : Cond.code yX8_append cX8_append 3 (Option.none : Option Jvm.ClassFile.FieldType) ∈ n_tb := n_a5 37 rfl rfl
theorem wmL_92 : Cond.methodLink "ShareMonitorLaw" 92 yL_end ∈ n_tb := n_a5 38 (by decide +kernel) rfl
theorem ws_yL_end : Cond.static yL_end ∈ n_tb := n_a5 39 (by decide +kernel) rfl
theorem wmL_15 : Cond.methodLink "ShareMonitorLaw" 15 yX11_end ∈ n_tb := n_a5 42 (by decide +kernel) rfl
theorem wi_yX11_end : Cond.instanceMethod yX11_end ∈ n_tb := n_a5 43 (by decide +kernel) rfl
theorem wv_yX11_end : Cond.selects "ShareMonitor" yX11_end yX11_end ∈ n_tb := n_a5 44 (by decide +kernel) rfl
set_option maxRecDepth 100000 in
theorem wc_yX11_end : Cond.code yX11_end cX11_end 2 (Option.none : Option Jvm.ClassFile.FieldType) ∈ n_tb := n_a5 45 rfl rfl
theorem wmL_96 : Cond.methodLink "ShareMonitorLaw" 96 yL_load ∈ n_tb := n_a5 49 (by decide +kernel) rfl
theorem ws_yL_load : Cond.static yL_load ∈ n_tb := n_a5 50 (by decide +kernel) rfl
theorem wmL_21 : Cond.methodLink "ShareMonitorLaw" 21 yX11_load ∈ n_tb := n_a5 53 (by decide +kernel) rfl
theorem wi_yX11_load : Cond.instanceMethod yX11_load ∈ n_tb := n_a5 54 (by decide +kernel) rfl
theorem wv_yX11_load : Cond.selects "ShareMonitor" yX11_load yX11_load ∈ n_tb := n_a5 55 (by decide +kernel) rfl
set_option maxRecDepth 100000 in
theorem wc_yX11_load : Cond.code yX11_load cX11_load 4 (Option.some Jvm.ClassFile.FieldType.int) ∈ n_tb := n_a5 56 rfl rfl
theorem wmX11_66 : Cond.methodLink "ShareMonitor" 66 yX2_leastFree ∈ n_tb := n_a5 70 (by decide +kernel) rfl
theorem wmX11_70 : Cond.methodLink "ShareMonitor" 70 yX2_spareProgram ∈ n_tb := n_a5 71 (by decide +kernel) rfl
theorem wi_yX2_spareProgram : Cond.instanceMethod yX2_spareProgram ∈ n_tb := n_a5 72 (by decide +kernel) rfl
theorem wv_yX2_spareProgram : Cond.selects "ShareMonitor$Desk" yX2_spareProgram yX2_spareProgram ∈ n_tb := n_a5 73 (by decide +kernel) rfl
set_option maxRecDepth 100000 in
theorem wc_yX2_spareProgram : Cond.code yX2_spareProgram cX2_spareProgram 2 (Option.some (Jvm.ClassFile.FieldType.object "ShareMonitor$Program")) ∈ n_tb := n_a5 74 rfl rfl
theorem wmX11_76 : Cond.methodLink "ShareMonitor" 76 yX6_read ∈ n_tb := n_a5 76 (by decide +kernel) rfl
theorem wi_yX6_read : Cond.instanceMethod yX6_read ∈ n_tb := n_a5 77 (by decide +kernel) rfl
theorem wv_yX6_read : Cond.selects "ShareMonitor$Reader" yX6_read yX6_read ∈ n_tb := n_a5 78 (by decide +kernel) rfl
set_option maxRecDepth 100000 in
theorem wc_yX6_read : Cond.code yX6_read cX6_read 3 (Option.none : Option Jvm.ClassFile.FieldType) ∈ n_tb := n_a5 79 rfl rfl
theorem wmX6_49 : Cond.methodLink "ShareMonitor$Reader" 49 yX6_findWord ∈ n_tb := n_a5 80 (by decide +kernel) rfl
theorem wi_yX6_findWord : Cond.instanceMethod yX6_findWord ∈ n_tb := n_a5 82 (by decide +kernel) rfl
set_option maxRecDepth 100000 in
theorem wc_yX6_findWord : Cond.code yX6_findWord cX6_findWord 1 (Option.some Jvm.ClassFile.FieldType.boolean) ∈ n_tb := n_a5 83 rfl rfl
theorem wmX6_69 : Cond.methodLink "ShareMonitor$Reader" 69 yX6_placeBehindBlanks ∈ n_tb := n_a5 84 (by decide +kernel) rfl
theorem wi_yX6_placeBehindBlanks : Cond.instanceMethod yX6_placeBehindBlanks ∈ n_tb := n_a5 86 (by decide +kernel) rfl
set_option maxRecDepth 100000 in
theorem wc_yX6_placeBehindBlanks : Cond.code yX6_placeBehindBlanks cX6_placeBehindBlanks 5 (Option.some Jvm.ClassFile.FieldType.int) ∈ n_tb := n_a5 87 rfl rfl
theorem wmX6_76 : Cond.methodLink "ShareMonitor$Reader" 76 yX8_at ∈ n_tb := n_a5 88 (by decide +kernel) rfl
theorem wi_yX8_at : Cond.instanceMethod yX8_at ∈ n_tb := n_a5 89 (by decide +kernel) rfl
theorem wv_yX8_at : Cond.selects "ShareMonitor$Tape" yX8_at yX8_at ∈ n_tb := n_a5 90 (by decide +kernel) rfl
set_option maxRecDepth 100000 in
theorem wc_yX8_at : Cond.code yX8_at cX8_at 2 (Option.some Jvm.ClassFile.FieldType.int) ∈ n_tb := n_a5 91 rfl rfl
theorem wmX6_79 : Cond.methodLink "ShareMonitor$Reader" 79 yX6_isBlank ∈ n_tb := n_a5 92 (by decide +kernel) rfl
theorem ws_yX6_isBlank : Cond.static yX6_isBlank ∈ n_tb := n_a5 93 (by decide +kernel) rfl
set_option maxRecDepth 100000 in
theorem wc_yX6_isBlank : Cond.code yX6_isBlank cX6_isBlank 1 (Option.some Jvm.ClassFile.FieldType.boolean) ∈ n_tb := n_a5 94 rfl rfl
theorem wmX6_53 : Cond.methodLink "ShareMonitor$Reader" 53 yX6_readWord ∈ n_tb := n_a5 95 (by decide +kernel) rfl
theorem wi_yX6_readWord : Cond.instanceMethod yX6_readWord ∈ n_tb := n_a5 97 (by decide +kernel) rfl
set_option maxRecDepth 100000 in
theorem wc_yX6_readWord : Cond.code yX6_readWord cX6_readWord 5 (Option.none : Option Jvm.ClassFile.FieldType) ∈ n_tb := n_a5 98 rfl rfl
theorem wmX6_83 : Cond.methodLink "ShareMonitor$Reader" 83 yX6_numberHere ∈ n_tb := n_a5 99 (by decide +kernel) rfl
theorem wi_yX6_numberHere : Cond.instanceMethod yX6_numberHere ∈ n_tb := n_a5 101 (by decide +kernel) rfl
set_option maxRecDepth 100000 in
theorem wc_yX6_numberHere : Cond.code yX6_numberHere cX6_numberHere 7 (Option.some Jvm.ClassFile.FieldType.long) ∈ n_tb := n_a5 102 rfl rfl
theorem wmX6_132 : Cond.methodLink "ShareMonitor$Reader" 132 yX6_isDigit ∈ n_tb := n_a5 103 (by decide +kernel) rfl
theorem ws_yX6_isDigit : Cond.static yX6_isDigit ∈ n_tb := n_a5 104 (by decide +kernel) rfl
set_option maxRecDepth 100000 in
theorem wc_yX6_isDigit : Cond.code yX6_isDigit cX6_isDigit 1 (Option.some Jvm.ClassFile.FieldType.boolean) ∈ n_tb := n_a5 105 rfl rfl
theorem wmX6_139 : Cond.methodLink "ShareMonitor$Reader" 139 yJ9_min_f86c9 ∈ n_tb := n_a5 109 (by decide +kernel) rfl
theorem wfX6_89 : Cond.fieldLink "ShareMonitor$Reader" 89 "ShareMonitor$Op" "NUMBER" "LShareMonitor$Op;" ∈ n_tb := n_a5 111 (by decide +kernel) rfl
theorem wmX6_95 : Cond.methodLink "ShareMonitor$Reader" 95 yX6_addInstruction ∈ n_tb := n_a5 112 (by decide +kernel) rfl
theorem wi_yX6_addInstruction : Cond.instanceMethod yX6_addInstruction ∈ n_tb := n_a5 114 (by decide +kernel) rfl
set_option maxRecDepth 100000 in
theorem wc_yX6_addInstruction : Cond.code yX6_addInstruction cX6_addInstruction 5 (Option.none : Option Jvm.ClassFile.FieldType) ∈ n_tb := n_a5 115 rfl rfl
theorem wmX6_65 : Cond.methodLink "ShareMonitor$Reader" 65 yX6_blame ∈ n_tb := n_a5 116 (by decide +kernel) rfl
theorem wi_yX6_blame : Cond.instanceMethod yX6_blame ∈ n_tb := n_a5 118 (by decide +kernel) rfl
set_option maxRecDepth 100000 in
theorem wc_yX6_blame : Cond.code yX6_blame cX6_blame 3 (Option.none : Option Jvm.ClassFile.FieldType) ∈ n_tb := n_a5 119 rfl rfl
theorem wmX6_99 : Cond.methodLink "ShareMonitor$Reader" 99 yX4_written ∈ n_tb := n_a5 120 (by decide +kernel) rfl
theorem ws_yX4_written : Cond.static yX4_written ∈ n_tb := n_a5 121 (by decide +kernel) rfl
set_option maxRecDepth 100000 in
theorem wc_yX4_written : Cond.code yX4_written cX4_written 4 (Option.some (Jvm.ClassFile.FieldType.object "ShareMonitor$Op")) ∈ n_tb := n_a5 122 rfl rfl
theorem wfX4_168 : Cond.fieldLink "ShareMonitor$Op" 168 "ShareMonitor$Op" "ALL" "[LShareMonitor$Op;" ∈ n_tb := n_a5 123 (by decide +kernel) rfl
theorem wmX4_171 : Cond.methodLink "ShareMonitor$Op" 171 yX8_says ∈ n_tb := n_a5 125 (by decide +kernel) rfl
theorem wi_yX8_says : Cond.instanceMethod yX8_says ∈ n_tb := n_a5 126 (by decide +kernel) rfl
theorem wv_yX8_says : Cond.selects "ShareMonitor$Tape" yX8_says yX8_says ∈ n_tb := n_a5 127 (by decide +kernel) rfl
set_option maxRecDepth 100000 in
theorem wc_yX8_says : Cond.code yX8_says cX8_says 5 (Option.some Jvm.ClassFile.FieldType.boolean) ∈ n_tb := n_a5 128 rfl rfl
theorem wmX8_19 : Cond.methodLink "ShareMonitor$Tape" 19 yJ0_length_8abf5 ∈ n_tb := n_a5 129 (by decide +kernel) rfl
theorem wmX8_24 : Cond.methodLink "ShareMonitor$Tape" 24 yJ0_charAt_5068e ∈ n_tb := n_a5 130 (by decide +kernel) rfl
theorem wi_yJ0_charAt_5068e : Cond.instanceMethod yJ0_charAt_5068e ∈ n_tb := n_a5 131 (by decide +kernel) rfl
theorem wv_yJ0_charAt_5068e : Cond.selects "java/lang/String" yJ0_charAt_5068e yJ0_charAt_5068e ∈ n_tb := n_a5 132 (by decide +kernel) rfl
set_option maxRecDepth 100000 in
theorem wc_yJ0_charAt_5068e : Cond.code yJ0_charAt_5068e cJ0_charAt_5068e 2 (Option.some Jvm.ClassFile.FieldType.char) ∈ n_tb := n_a5 133 rfl rfl
theorem wmJ0_492 : Cond.methodLink "java/lang/String" 492 yJ0_isLatin1_aae02 ∈ n_tb := n_a5 134 (by decide +kernel) rfl
theorem wi_yJ0_isLatin1_aae02 : Cond.instanceMethod yJ0_isLatin1_aae02 ∈ n_tb := n_a5 135 (by decide +kernel) rfl
theorem wv_yJ0_isLatin1_aae02 : Cond.selects "java/lang/String" yJ0_isLatin1_aae02 yJ0_isLatin1_aae02 ∈ n_tb := n_a5 136 (by decide +kernel) rfl
set_option maxRecDepth 100000 in
theorem wc_yJ0_isLatin1_aae02 : Cond.code yJ0_isLatin1_aae02 cJ0_isLatin1_aae02 1 (Option.some Jvm.ClassFile.FieldType.boolean) ∈ n_tb := n_a5 137 rfl rfl
theorem wmJ0_495 : Cond.methodLink "java/lang/String" 495 yJ1_charAt_3b067 ∈ n_tb := n_a5 138 (by decide +kernel) rfl
theorem ws_yJ1_charAt_3b067 : Cond.static yJ1_charAt_3b067 ∈ n_tb := n_a5 139 (by decide +kernel) rfl
set_option maxRecDepth 100000 in
theorem wc_yJ1_charAt_3b067 : Cond.code yJ1_charAt_3b067 cJ1_charAt_3b067 2 (Option.some Jvm.ClassFile.FieldType.char) ∈ n_tb := n_a5 140 rfl rfl
theorem wmJ1_9 : Cond.methodLink "java/lang/StringLatin1" 9 yJ0_checkIndex_df160 ∈ n_tb := n_a5 141 (by decide +kernel) rfl
theorem ws_yJ0_checkIndex_df160 : Cond.static yJ0_checkIndex_df160 ∈ n_tb := n_a5 142 (by decide +kernel) rfl
set_option maxRecDepth 100000 in
theorem wc_yJ0_checkIndex_df160 : Cond.code yJ0_checkIndex_df160 cJ0_checkIndex_df160 2 (Option.none : Option Jvm.ClassFile.FieldType) ∈ n_tb := n_a5 143 rfl rfl
theorem wmJ0_1059 : Cond.methodLink "java/lang/String" 1059 yJ3_checkIndex_8e157 ∈ n_tb := n_a5 144 (by decide +kernel) rfl
theorem ws_yJ3_checkIndex_8e157 : Cond.static yJ3_checkIndex_8e157 ∈ n_tb := n_a5 145 (by decide +kernel) rfl
set_option maxRecDepth 100000 in
theorem wc_yJ3_checkIndex_8e157 : Cond.code yJ3_checkIndex_8e157 cJ3_checkIndex_8e157 3 (Option.some Jvm.ClassFile.FieldType.int) ∈ n_tb := n_a5 146 rfl rfl
theorem wmJ0_498 : Cond.methodLink "java/lang/String" 498 yJ2_charAt_3b067 ∈ n_tb := n_a5 147 (by decide +kernel) rfl
theorem ws_yJ2_charAt_3b067 : Cond.static yJ2_charAt_3b067 ∈ n_tb := n_a5 148 (by decide +kernel) rfl
set_option maxRecDepth 100000 in
theorem wc_yJ2_charAt_3b067 : Cond.code yJ2_charAt_3b067 cJ2_charAt_3b067 2 (Option.some Jvm.ClassFile.FieldType.char) ∈ n_tb := n_a5 149 rfl rfl
theorem wmJ2_67 : Cond.methodLink "java/lang/StringUTF16" 67 yJ2_checkIndex_2214a ∈ n_tb := n_a5 150 (by decide +kernel) rfl
theorem ws_yJ2_checkIndex_2214a : Cond.static yJ2_checkIndex_2214a ∈ n_tb := n_a5 151 (by decide +kernel) rfl
set_option maxRecDepth 100000 in
theorem wc_yJ2_checkIndex_2214a : Cond.code yJ2_checkIndex_2214a cJ2_checkIndex_2214a 2 (Option.none : Option Jvm.ClassFile.FieldType) ∈ n_tb := n_a5 152 rfl rfl
theorem wmJ2_414 : Cond.methodLink "java/lang/StringUTF16" 414 yJ0_checkIndex_df160 ∈ n_tb := n_a5 153 (by decide +kernel) rfl
theorem wmX6_103 : Cond.methodLink "ShareMonitor$Reader" 103 yX4_hasName ∈ n_tb := n_a5 154 (by decide +kernel) rfl
theorem wi_yX4_hasName : Cond.instanceMethod yX4_hasName ∈ n_tb := n_a5 155 (by decide +kernel) rfl
theorem wv_yX4_hasName : Cond.selects "ShareMonitor$Op" yX4_hasName yX4_hasName ∈ n_tb := n_a5 156 (by decide +kernel) rfl
set_option maxRecDepth 100000 in
theorem wc_yX4_hasName : Cond.code yX4_hasName cX4_hasName 1 (Option.some Jvm.ClassFile.FieldType.boolean) ∈ n_tb := n_a5 157 rfl rfl
theorem wfX4_66 : Cond.fieldLink "ShareMonitor$Op" 66 "ShareMonitor$Op" "JUMP" "LShareMonitor$Op;" ∈ n_tb := n_a5 158 (by decide +kernel) rfl
theorem wfX4_69 : Cond.fieldLink "ShareMonitor$Op" 69 "ShareMonitor$Op" "ZERO" "LShareMonitor$Op;" ∈ n_tb := n_a5 160 (by decide +kernel) rfl
theorem wfX4_72 : Cond.fieldLink "ShareMonitor$Op" 72 "ShareMonitor$Op" "CALL" "LShareMonitor$Op;" ∈ n_tb := n_a5 162 (by decide +kernel) rfl
theorem wfX4_108 : Cond.fieldLink "ShareMonitor$Op" 108 "ShareMonitor$Op" "SPAWN" "LShareMonitor$Op;" ∈ n_tb := n_a5 164 (by decide +kernel) rfl
theorem wmX6_106 : Cond.methodLink "ShareMonitor$Reader" 106 yX6_readName ∈ n_tb := n_a5 166 (by decide +kernel) rfl
theorem wi_yX6_readName : Cond.instanceMethod yX6_readName ∈ n_tb := n_a5 168 (by decide +kernel) rfl
set_option maxRecDepth 100000 in
theorem wc_yX6_readName : Cond.code yX6_readName cX6_readName 2 (Option.none : Option Jvm.ClassFile.FieldType) ∈ n_tb := n_a5 169 rfl rfl
theorem wmX6_110 : Cond.methodLink "ShareMonitor$Reader" 110 yX6_isName ∈ n_tb := n_a5 170 (by decide +kernel) rfl
theorem wi_yX6_isName : Cond.instanceMethod yX6_isName ∈ n_tb := n_a5 172 (by decide +kernel) rfl
set_option maxRecDepth 100000 in
theorem wc_yX6_isName : Cond.code yX6_isName cX6_isName 4 (Option.some Jvm.ClassFile.FieldType.boolean) ∈ n_tb := n_a5 173 rfl rfl
theorem wmX6_147 : Cond.methodLink "ShareMonitor$Reader" 147 yX6_isLetter ∈ n_tb := n_a5 174 (by decide +kernel) rfl
theorem ws_yX6_isLetter : Cond.static yX6_isLetter ∈ n_tb := n_a5 175 (by decide +kernel) rfl
set_option maxRecDepth 100000 in
theorem wc_yX6_isLetter : Cond.code yX6_isLetter cX6_isLetter 1 (Option.some Jvm.ClassFile.FieldType.boolean) ∈ n_tb := n_a5 176 rfl rfl
theorem wmX6_114 : Cond.methodLink "ShareMonitor$Reader" 114 yX6_addLabel ∈ n_tb := n_a5 177 (by decide +kernel) rfl
theorem wi_yX6_addLabel : Cond.instanceMethod yX6_addLabel ∈ n_tb := n_a5 179 (by decide +kernel) rfl
set_option maxRecDepth 100000 in
theorem wc_yX6_addLabel : Cond.code yX6_addLabel cX6_addLabel 3 (Option.none : Option Jvm.ClassFile.FieldType) ∈ n_tb := n_a5 180 rfl rfl
theorem wmX6_124 : Cond.methodLink "ShareMonitor$Reader" 124 yX6_targetOf ∈ n_tb := n_a5 181 (by decide +kernel) rfl
theorem wi_yX6_targetOf : Cond.instanceMethod yX6_targetOf ∈ n_tb := n_a5 183 (by decide +kernel) rfl
set_option maxRecDepth 100000 in
theorem wc_yX6_targetOf : Cond.code yX6_targetOf cX6_targetOf 4 (Option.some Jvm.ClassFile.FieldType.int) ∈ n_tb := n_a5 184 rfl rfl
theorem wmX6_128 : Cond.methodLink "ShareMonitor$Reader" 128 yX8_repeats ∈ n_tb := n_a5 185 (by decide +kernel) rfl
theorem wi_yX8_repeats : Cond.instanceMethod yX8_repeats ∈ n_tb := n_a5 186 (by decide +kernel) rfl
theorem wv_yX8_repeats : Cond.selects "ShareMonitor$Tape" yX8_repeats yX8_repeats ∈ n_tb := n_a5 187 (by decide +kernel) rfl
set_option maxRecDepth 100000 in
theorem wc_yX8_repeats : Cond.code yX8_repeats cX8_repeats 5 (Option.some Jvm.ClassFile.FieldType.boolean) ∈ n_tb := n_a5 188 rfl rfl
theorem wmX8_28 : Cond.methodLink "ShareMonitor$Tape" 28 yX8_at ∈ n_tb := n_a5 189 (by decide +kernel) rfl
theorem wmX6_57 : Cond.methodLink "ShareMonitor$Reader" 57 yX6_findTargets ∈ n_tb := n_a5 190 (by decide +kernel) rfl
theorem wi_yX6_findTargets : Cond.instanceMethod yX6_findTargets ∈ n_tb := n_a5 192 (by decide +kernel) rfl
set_option maxRecDepth 100000 in
theorem wc_yX6_findTargets : Cond.code yX6_findTargets cX6_findTargets 3 (Option.none : Option Jvm.ClassFile.FieldType) ∈ n_tb := n_a5 193 rfl rfl
theorem wmX11_86 : Cond.methodLink "ShareMonitor" 86 yX2_taken ∈ n_tb := n_a5 194 (by decide +kernel) rfl
theorem wmL_108 : Cond.methodLink "ShareMonitorLaw" 108 yL_run ∈ n_tb := n_a5 195 (by decide +kernel) rfl
theorem ws_yL_run : Cond.static yL_run ∈ n_tb := n_a5 196 (by decide +kernel) rfl
theorem wmL_27 : Cond.methodLink "ShareMonitorLaw" 27 yX11_run ∈ n_tb := n_a5 198 (by decide +kernel) rfl
theorem wi_yX11_run : Cond.instanceMethod yX11_run ∈ n_tb := n_a5 199 (by decide +kernel) rfl
theorem wv_yX11_run : Cond.selects "ShareMonitor" yX11_run yX11_run ∈ n_tb := n_a5 200 (by decide +kernel) rfl
set_option maxRecDepth 100000 in
theorem wc_yX11_run : Cond.code yX11_run cX11_run 4 (Option.some Jvm.ClassFile.FieldType.int) ∈ n_tb := n_a5 201 rfl rfl
theorem wmL_111 : Cond.methodLink "ShareMonitorLaw" 111 yL_quantum ∈ n_tb := n_a5 203 (by decide +kernel) rfl
theorem ws_yL_quantum : Cond.static yL_quantum ∈ n_tb := n_a5 204 (by decide +kernel) rfl
theorem wmL_30 : Cond.methodLink "ShareMonitorLaw" 30 yX11_quantum ∈ n_tb := n_a5 206 (by decide +kernel) rfl
theorem wi_yX11_quantum : Cond.instanceMethod yX11_quantum ∈ n_tb := n_a5 207 (by decide +kernel) rfl
theorem wv_yX11_quantum : Cond.selects "ShareMonitor" yX11_quantum yX11_quantum ∈ n_tb := n_a5 208 (by decide +kernel) rfl
set_option maxRecDepth 100000 in
theorem wc_yX11_quantum : Cond.code yX11_quantum cX11_quantum 3 (Option.some Jvm.ClassFile.FieldType.int) ∈ n_tb := n_a5 209 rfl rfl
theorem wmL_114 : Cond.methodLink "ShareMonitorLaw" 114 yL_kill ∈ n_tb := n_a5 211 (by decide +kernel) rfl
theorem ws_yL_kill : Cond.static yL_kill ∈ n_tb := n_a5 212 (by decide +kernel) rfl
theorem wmL_33 : Cond.methodLink "ShareMonitorLaw" 33 yX11_kill ∈ n_tb := n_a5 214 (by decide +kernel) rfl
theorem wi_yX11_kill : Cond.instanceMethod yX11_kill ∈ n_tb := n_a5 215 (by decide +kernel) rfl
theorem wv_yX11_kill : Cond.selects "ShareMonitor" yX11_kill yX11_kill ∈ n_tb := n_a5 216 (by decide +kernel) rfl
set_option maxRecDepth 100000 in
theorem wc_yX11_kill : Cond.code yX11_kill cX11_kill 3 (Option.some Jvm.ClassFile.FieldType.boolean) ∈ n_tb := n_a5 217 rfl rfl
theorem wmX11_106 : Cond.methodLink "ShareMonitor" 106 yX2_find ∈ n_tb := n_a5 218 (by decide +kernel) rfl
theorem wmX11_112 : Cond.methodLink "ShareMonitor" 112 yX9_isAlive ∈ n_tb := n_a5 220 (by decide +kernel) rfl
theorem wmX11_116 : Cond.methodLink "ShareMonitor" 116 yX2_finish ∈ n_tb := n_a5 221 (by decide +kernel) rfl
theorem wmL_117 : Cond.methodLink "ShareMonitorLaw" 117 yL_reap ∈ n_tb := n_a5 222 (by decide +kernel) rfl
theorem ws_yL_reap : Cond.static yL_reap ∈ n_tb := n_a5 223 (by decide +kernel) rfl
theorem wmL_37 : Cond.methodLink "ShareMonitorLaw" 37 yX11_reap ∈ n_tb := n_a5 226 (by decide +kernel) rfl
theorem wi_yX11_reap : Cond.instanceMethod yX11_reap ∈ n_tb := n_a5 227 (by decide +kernel) rfl
theorem wv_yX11_reap : Cond.selects "ShareMonitor" yX11_reap yX11_reap ∈ n_tb := n_a5 228 (by decide +kernel) rfl
set_option maxRecDepth 100000 in
theorem wc_yX11_reap : Cond.code yX11_reap cX11_reap 4 (Option.some Jvm.ClassFile.FieldType.int) ∈ n_tb := n_a5 229 rfl rfl
theorem wmX11_134 : Cond.methodLink "ShareMonitor" 134 yX9_vanish ∈ n_tb := n_a6 6 (by decide +kernel) rfl
theorem wmL_120 : Cond.methodLink "ShareMonitorLaw" 120 yL_key ∈ n_tb := n_a6 7 (by decide +kernel) rfl
theorem ws_yL_key : Cond.static yL_key ∈ n_tb := n_a6 8 (by decide +kernel) rfl
theorem wmL_42 : Cond.methodLink "ShareMonitorLaw" 42 yX11_key ∈ n_tb := n_a6 10 (by decide +kernel) rfl
theorem wi_yX11_key : Cond.instanceMethod yX11_key ∈ n_tb := n_a6 11 (by decide +kernel) rfl
theorem wv_yX11_key : Cond.selects "ShareMonitor" yX11_key yX11_key ∈ n_tb := n_a6 12 (by decide +kernel) rfl
set_option maxRecDepth 100000 in
theorem wc_yX11_key : Cond.code yX11_key cX11_key 4 (Option.some Jvm.ClassFile.FieldType.boolean) ∈ n_tb := n_a6 13 rfl rfl
theorem wmX11_143 : Cond.methodLink "ShareMonitor" 143 yX1_put ∈ n_tb := n_a6 15 (by decide +kernel) rfl
theorem wmX11_149 : Cond.methodLink "ShareMonitor" 149 yX2_makeReady ∈ n_tb := n_a6 16 (by decide +kernel) rfl
theorem wmL_124 : Cond.methodLink "ShareMonitorLaw" 124 yL_post ∈ n_tb := n_a6 17 (by decide +kernel) rfl
theorem ws_yL_post : Cond.static yL_post ∈ n_tb := n_a6 18 (by decide +kernel) rfl
theorem wmL_46 : Cond.methodLink "ShareMonitorLaw" 46 yX11_post ∈ n_tb := n_a6 20 (by decide +kernel) rfl
theorem wi_yX11_post : Cond.instanceMethod yX11_post ∈ n_tb := n_a6 21 (by decide +kernel) rfl
theorem wv_yX11_post : Cond.selects "ShareMonitor" yX11_post yX11_post ∈ n_tb := n_a6 22 (by decide +kernel) rfl
set_option maxRecDepth 100000 in
theorem wc_yX11_post : Cond.code yX11_post cX11_post 4 (Option.some Jvm.ClassFile.FieldType.boolean) ∈ n_tb := n_a6 23 rfl rfl
theorem wmX11_153 : Cond.methodLink "ShareMonitor" 153 yX2_deliver ∈ n_tb := n_a6 24 (by decide +kernel) rfl
theorem wmL_127 : Cond.methodLink "ShareMonitorLaw" 127 yL_state ∈ n_tb := n_a6 25 (by decide +kernel) rfl
theorem ws_yL_state : Cond.static yL_state ∈ n_tb := n_a6 26 (by decide +kernel) rfl
theorem wmL_49 : Cond.methodLink "ShareMonitorLaw" 49 yX11_state ∈ n_tb := n_a6 28 (by decide +kernel) rfl
theorem wi_yX11_state : Cond.instanceMethod yX11_state ∈ n_tb := n_a6 29 (by decide +kernel) rfl
theorem wv_yX11_state : Cond.selects "ShareMonitor" yX11_state yX11_state ∈ n_tb := n_a6 30 (by decide +kernel) rfl
set_option maxRecDepth 100000 in
theorem wc_yX11_state : Cond.code yX11_state cX11_state 4 (Option.some Jvm.ClassFile.FieldType.int) ∈ n_tb := n_a6 31 rfl rfl
theorem wmX11_181 : Cond.methodLink "ShareMonitor" 181 yX3_cellsOf ∈ n_tb := n_a6 33 (by decide +kernel) rfl
theorem wi_yX3_cellsOf : Cond.instanceMethod yX3_cellsOf ∈ n_tb := n_a6 34 (by decide +kernel) rfl
theorem wv_yX3_cellsOf : Cond.selects "ShareMonitor$Memory" yX3_cellsOf yX3_cellsOf ∈ n_tb := n_a6 35 (by decide +kernel) rfl
set_option maxRecDepth 100000 in
theorem wc_yX3_cellsOf : Cond.code yX3_cellsOf cX3_cellsOf 4 (Option.some Jvm.ClassFile.FieldType.int) ∈ n_tb := n_a6 36 rfl rfl
theorem wmL_130 : Cond.methodLink "ShareMonitorLaw" 130 yL_stack ∈ n_tb := n_a6 37 (by decide +kernel) rfl
theorem ws_yL_stack : Cond.static yL_stack ∈ n_tb := n_a6 38 (by decide +kernel) rfl
theorem wmL_53 : Cond.methodLink "ShareMonitorLaw" 53 yX11_stack ∈ n_tb := n_a6 40 (by decide +kernel) rfl
theorem wi_yX11_stack : Cond.instanceMethod yX11_stack ∈ n_tb := n_a6 41 (by decide +kernel) rfl
theorem wv_yX11_stack : Cond.selects "ShareMonitor" yX11_stack yX11_stack ∈ n_tb := n_a6 42 (by decide +kernel) rfl
set_option maxRecDepth 100000 in
theorem wc_yX11_stack : Cond.code yX11_stack cX11_stack 4 (Option.some Jvm.ClassFile.FieldType.int) ∈ n_tb := n_a6 43 rfl rfl
theorem wmL_133 : Cond.methodLink "ShareMonitorLaw" 133 yL_message ∈ n_tb := n_a6 45 (by decide +kernel) rfl
theorem ws_yL_message : Cond.static yL_message ∈ n_tb := n_a6 46 (by decide +kernel) rfl
theorem wmL_56 : Cond.methodLink "ShareMonitorLaw" 56 yX11_message ∈ n_tb := n_a6 48 (by decide +kernel) rfl
theorem wi_yX11_message : Cond.instanceMethod yX11_message ∈ n_tb := n_a6 49 (by decide +kernel) rfl
theorem wv_yX11_message : Cond.selects "ShareMonitor" yX11_message yX11_message ∈ n_tb := n_a6 50 (by decide +kernel) rfl
set_option maxRecDepth 100000 in
theorem wc_yX11_message : Cond.code yX11_message cX11_message 5 (Option.some Jvm.ClassFile.FieldType.int) ∈ n_tb := n_a6 51 rfl rfl
theorem wmL_137 : Cond.methodLink "ShareMonitorLaw" 137 yL_ready ∈ n_tb := n_a6 53 (by decide +kernel) rfl
theorem ws_yL_ready : Cond.static yL_ready ∈ n_tb := n_a6 54 (by decide +kernel) rfl
theorem wmL_60 : Cond.methodLink "ShareMonitorLaw" 60 yX11_ready ∈ n_tb := n_a6 56 (by decide +kernel) rfl
theorem wi_yX11_ready : Cond.instanceMethod yX11_ready ∈ n_tb := n_a6 57 (by decide +kernel) rfl
theorem wv_yX11_ready : Cond.selects "ShareMonitor" yX11_ready yX11_ready ∈ n_tb := n_a6 58 (by decide +kernel) rfl
set_option maxRecDepth 100000 in
theorem wc_yX11_ready : Cond.code yX11_ready cX11_ready 3 (Option.some Jvm.ClassFile.FieldType.int) ∈ n_tb := n_a6 59 rfl rfl
theorem wmL_140 : Cond.methodLink "ShareMonitorLaw" 140 yL_cell ∈ n_tb := n_a6 61 (by decide +kernel) rfl
theorem ws_yL_cell : Cond.static yL_cell ∈ n_tb := n_a6 62 (by decide +kernel) rfl
theorem wmL_63 : Cond.methodLink "ShareMonitorLaw" 63 yX11_cell ∈ n_tb := n_a6 64 (by decide +kernel) rfl
theorem wi_yX11_cell : Cond.instanceMethod yX11_cell ∈ n_tb := n_a6 65 (by decide +kernel) rfl
theorem wv_yX11_cell : Cond.selects "ShareMonitor" yX11_cell yX11_cell ∈ n_tb := n_a6 66 (by decide +kernel) rfl
set_option maxRecDepth 100000 in
theorem wc_yX11_cell : Cond.code yX11_cell cX11_cell 2 (Option.some Jvm.ClassFile.FieldType.int) ∈ n_tb := n_a6 67 rfl rfl
theorem wmL_143 : Cond.methodLink "ShareMonitorLaw" 143 yL_block ∈ n_tb := n_a6 69 (by decide +kernel) rfl
theorem ws_yL_block : Cond.static yL_block ∈ n_tb := n_a6 70 (by decide +kernel) rfl
theorem wmL_66 : Cond.methodLink "ShareMonitorLaw" 66 yX11_block ∈ n_tb := n_a6 72 (by decide +kernel) rfl
theorem wi_yX11_block : Cond.instanceMethod yX11_block ∈ n_tb := n_a6 73 (by decide +kernel) rfl
theorem wv_yX11_block : Cond.selects "ShareMonitor" yX11_block yX11_block ∈ n_tb := n_a6 74 (by decide +kernel) rfl
set_option maxRecDepth 100000 in
theorem wc_yX11_block : Cond.code yX11_block cX11_block 4 (Option.some Jvm.ClassFile.FieldType.int) ∈ n_tb := n_a6 75 rfl rfl
theorem wmX11_225 : Cond.methodLink "ShareMonitor" 225 yX3_addressOf ∈ n_tb := n_a6 76 (by decide +kernel) rfl
theorem wi_yX3_addressOf : Cond.instanceMethod yX3_addressOf ∈ n_tb := n_a6 77 (by decide +kernel) rfl
theorem wv_yX3_addressOf : Cond.selects "ShareMonitor$Memory" yX3_addressOf yX3_addressOf ∈ n_tb := n_a6 78 (by decide +kernel) rfl
set_option maxRecDepth 100000 in
theorem wc_yX3_addressOf : Cond.code yX3_addressOf cX3_addressOf 4 (Option.some Jvm.ClassFile.FieldType.int) ∈ n_tb := n_a6 79 rfl rfl
theorem wmL_146 : Cond.methodLink "ShareMonitorLaw" 146 yL_semaphore ∈ n_tb := n_a6 81 (by decide +kernel) rfl
theorem ws_yL_semaphore : Cond.static yL_semaphore ∈ n_tb := n_a6 82 (by decide +kernel) rfl
theorem wmL_69 : Cond.methodLink "ShareMonitorLaw" 69 yX11_semaphore ∈ n_tb := n_a6 84 (by decide +kernel) rfl
theorem wi_yX11_semaphore : Cond.instanceMethod yX11_semaphore ∈ n_tb := n_a6 85 (by decide +kernel) rfl
theorem wv_yX11_semaphore : Cond.selects "ShareMonitor" yX11_semaphore yX11_semaphore ∈ n_tb := n_a6 86 (by decide +kernel) rfl
set_option maxRecDepth 100000 in
theorem wc_yX11_semaphore : Cond.code yX11_semaphore cX11_semaphore 3 (Option.some Jvm.ClassFile.FieldType.int) ∈ n_tb := n_a6 87 rfl rfl
theorem wmL_149 : Cond.methodLink "ShareMonitorLaw" 149 yL_out ∈ n_tb := n_a6 89 (by decide +kernel) rfl
theorem ws_yL_out : Cond.static yL_out ∈ n_tb := n_a6 90 (by decide +kernel) rfl
theorem wmL_72 : Cond.methodLink "ShareMonitorLaw" 72 yX11_out ∈ n_tb := n_a6 92 (by decide +kernel) rfl
theorem wi_yX11_out : Cond.instanceMethod yX11_out ∈ n_tb := n_a6 93 (by decide +kernel) rfl
theorem wv_yX11_out : Cond.selects "ShareMonitor" yX11_out yX11_out ∈ n_tb := n_a6 94 (by decide +kernel) rfl
set_option maxRecDepth 100000 in
theorem wc_yX11_out : Cond.code yX11_out cX11_out 2 (Option.some Jvm.ClassFile.FieldType.int) ∈ n_tb := n_a6 95 rfl rfl
theorem wmL_152 : Cond.methodLink "ShareMonitorLaw" 152 yL_count ∈ n_tb := n_a6 97 (by decide +kernel) rfl
theorem ws_yL_count : Cond.static yL_count ∈ n_tb := n_a6 98 (by decide +kernel) rfl
theorem wmL_75 : Cond.methodLink "ShareMonitorLaw" 75 yX11_count ∈ n_tb := n_a6 100 (by decide +kernel) rfl
theorem wi_yX11_count : Cond.instanceMethod yX11_count ∈ n_tb := n_a6 101 (by decide +kernel) rfl
theorem wv_yX11_count : Cond.selects "ShareMonitor" yX11_count yX11_count ∈ n_tb := n_a6 102 (by decide +kernel) rfl
set_option maxRecDepth 100000 in
theorem wc_yX11_count : Cond.code yX11_count cX11_count 2 (Option.some Jvm.ClassFile.FieldType.int) ∈ n_tb := n_a6 103 rfl rfl
theorem wmX11_260 : Cond.methodLink "ShareMonitor" 260 yX3_blocks ∈ n_tb := n_a6 105 (by decide +kernel) rfl
theorem wi_yX3_blocks : Cond.instanceMethod yX3_blocks ∈ n_tb := n_a6 106 (by decide +kernel) rfl
theorem wv_yX3_blocks : Cond.selects "ShareMonitor$Memory" yX3_blocks yX3_blocks ∈ n_tb := n_a6 107 (by decide +kernel) rfl
set_option maxRecDepth 100000 in
theorem wc_yX3_blocks : Cond.code yX3_blocks cX3_blocks 3 (Option.some Jvm.ClassFile.FieldType.int) ∈ n_tb := n_a6 108 rfl rfl
theorem wmX11_263 : Cond.methodLink "ShareMonitor" 263 yX2_countFrom ∈ n_tb := n_a6 109 (by decide +kernel) rfl
theorem wi_yX2_countFrom : Cond.instanceMethod yX2_countFrom ∈ n_tb := n_a6 110 (by decide +kernel) rfl
theorem wv_yX2_countFrom : Cond.selects "ShareMonitor$Desk" yX2_countFrom yX2_countFrom ∈ n_tb := n_a6 111 (by decide +kernel) rfl
set_option maxRecDepth 100000 in
theorem wc_yX2_countFrom : Cond.code yX2_countFrom cX2_countFrom 5 (Option.some Jvm.ClassFile.FieldType.int) ∈ n_tb := n_a6 112 rfl rfl
theorem wmX11_267 : Cond.methodLink "ShareMonitor" 267 yX2_programsInUse ∈ n_tb := n_a6 113 (by decide +kernel) rfl
theorem wi_yX2_programsInUse : Cond.instanceMethod yX2_programsInUse ∈ n_tb := n_a6 114 (by decide +kernel) rfl
theorem wv_yX2_programsInUse : Cond.selects "ShareMonitor$Desk" yX2_programsInUse yX2_programsInUse ∈ n_tb := n_a6 115 (by decide +kernel) rfl
set_option maxRecDepth 100000 in
theorem wc_yX2_programsInUse : Cond.code yX2_programsInUse cX2_programsInUse 3 (Option.some Jvm.ClassFile.FieldType.int) ∈ n_tb := n_a6 116 rfl rfl
theorem wmX11_270 : Cond.methodLink "ShareMonitor" 270 yX2_instructionsInUse ∈ n_tb := n_a6 117 (by decide +kernel) rfl
theorem wi_yX2_instructionsInUse : Cond.instanceMethod yX2_instructionsInUse ∈ n_tb := n_a6 118 (by decide +kernel) rfl
theorem wv_yX2_instructionsInUse : Cond.selects "ShareMonitor$Desk" yX2_instructionsInUse yX2_instructionsInUse ∈ n_tb := n_a6 119 (by decide +kernel) rfl
set_option maxRecDepth 100000 in
theorem wc_yX2_instructionsInUse : Cond.code yX2_instructionsInUse cX2_instructionsInUse 3 (Option.some Jvm.ClassFile.FieldType.int) ∈ n_tb := n_a6 120 rfl rfl
theorem wmL_88 : Cond.methodLink "ShareMonitorLaw" 88 yX12_thrown ∈ n_tb := n_a6 121 (by decide +kernel) rfl
theorem wi_yX12_thrown : Cond.instanceMethod yX12_thrown ∈ n_tb := n_a6 122 (by decide +kernel) rfl
theorem wv_yX12_thrown : Cond.selects "ShareMonitorModel" yX12_thrown yX12_thrown ∈ n_tb := n_a6 123 (by decide +kernel) rfl
set_option maxRecDepth 100000 in
theorem wc_yX12_thrown : Cond.code yX12_thrown cX12_thrown 1 (Option.some Jvm.ClassFile.FieldType.int) ∈ n_tb := n_a6 124 rfl rfl
theorem wmL_81 : Cond.methodLink "ShareMonitorLaw" 81 yX12_init ∈ n_tb := n_a6 127 (by decide +kernel) rfl
theorem wi_yX12_init : Cond.instanceMethod yX12_init ∈ n_tb := n_a6 128 (by decide +kernel) rfl
set_option maxRecDepth 100000 in
theorem wc_yX12_init : Cond.code yX12_init cX12_init 1 (Option.none : Option Jvm.ClassFile.FieldType) ∈ n_tb := n_a6 129 rfl rfl
theorem wfX12_97 : Cond.fieldLink "ShareMonitorModel" 97 "ShareMonitorModel" "words" "[J" ∈ n_tb := n_a6 173 (by decide +kernel) rfl
theorem wfX12_101 : Cond.fieldLink "ShareMonitorModel" 101 "ShareMonitorModel" "needs" "[I" ∈ n_tb := n_a6 174 (by decide +kernel) rfl
theorem wfX12_1 : Cond.fieldLink "ShareMonitorModel" 1 "ShareMonitorModel" "code" "I" ∈ n_tb := n_a6 175 (by decide +kernel) rfl
theorem wfX12_105 : Cond.fieldLink "ShareMonitorModel" 105 "ShareMonitorModel" "tape" "[B" ∈ n_tb := n_a6 176 (by decide +kernel) rfl
theorem wfX12_227 : Cond.fieldLink "ShareMonitorModel" 227 "ShareMonitorModel" "size" "I" ∈ n_tb := n_a6 177 (by decide +kernel) rfl
theorem wfX12_271 : Cond.fieldLink "ShareMonitorModel" 271 "ShareMonitorModel" "fault" "I" ∈ n_tb := n_a6 178 (by decide +kernel) rfl
theorem wfX12_274 : Cond.fieldLink "ShareMonitorModel" 274 "ShareMonitorModel" "place" "I" ∈ n_tb := n_a6 179 (by decide +kernel) rfl
theorem wfX12_109 : Cond.fieldLink "ShareMonitorModel" 109 "ShareMonitorModel" "ops" "[I" ∈ n_tb := n_a6 180 (by decide +kernel) rfl
theorem wfX12_112 : Cond.fieldLink "ShareMonitorModel" 112 "ShareMonitorModel" "numbers" "[I" ∈ n_tb := n_a6 181 (by decide +kernel) rfl
theorem wfX12_115 : Cond.fieldLink "ShareMonitorModel" 115 "ShareMonitorModel" "lengths" "[I" ∈ n_tb := n_a6 182 (by decide +kernel) rfl
theorem wfX12_118 : Cond.fieldLink "ShareMonitorModel" 118 "ShareMonitorModel" "isProgram" "[Z" ∈ n_tb := n_a6 183 (by decide +kernel) rfl
theorem wfX12_122 : Cond.fieldLink "ShareMonitorModel" 122 "ShareMonitorModel" "labelAt" "[I" ∈ n_tb := n_a6 184 (by decide +kernel) rfl
theorem wfX12_125 : Cond.fieldLink "ShareMonitorModel" 125 "ShareMonitorModel" "labelSize" "[I" ∈ n_tb := n_a6 185 (by decide +kernel) rfl
theorem wfX12_128 : Cond.fieldLink "ShareMonitorModel" 128 "ShareMonitorModel" "labelTo" "[I" ∈ n_tb := n_a6 186 (by decide +kernel) rfl
theorem wfX12_268 : Cond.fieldLink "ShareMonitorModel" 268 "ShareMonitorModel" "labels" "I" ∈ n_tb := n_a6 187 (by decide +kernel) rfl
theorem wfX12_131 : Cond.fieldLink "ShareMonitorModel" 131 "ShareMonitorModel" "nameAt" "[I" ∈ n_tb := n_a6 188 (by decide +kernel) rfl
theorem wfX12_134 : Cond.fieldLink "ShareMonitorModel" 134 "ShareMonitorModel" "nameSize" "[I" ∈ n_tb := n_a6 189 (by decide +kernel) rfl
theorem wfX12_241 : Cond.fieldLink "ShareMonitorModel" 241 "ShareMonitorModel" "wordAt" "I" ∈ n_tb := n_a6 190 (by decide +kernel) rfl
theorem wfX12_230 : Cond.fieldLink "ShareMonitorModel" 230 "ShareMonitorModel" "wordEnd" "I" ∈ n_tb := n_a6 191 (by decide +kernel) rfl
theorem wfX12_137 : Cond.fieldLink "ShareMonitorModel" 137 "ShareMonitorModel" "status" "[I" ∈ n_tb := n_a6 192 (by decide +kernel) rfl
theorem wfX12_140 : Cond.fieldLink "ShareMonitorModel" 140 "ShareMonitorModel" "codes" "[I" ∈ n_tb := n_a6 193 (by decide +kernel) rfl
theorem wfX12_143 : Cond.fieldLink "ShareMonitorModel" 143 "ShareMonitorModel" "level" "[I" ∈ n_tb := n_a6 194 (by decide +kernel) rfl
theorem wfX12_146 : Cond.fieldLink "ShareMonitorModel" 146 "ShareMonitorModel" "parent" "[I" ∈ n_tb := n_a6 195 (by decide +kernel) rfl
theorem wfX12_149 : Cond.fieldLink "ShareMonitorModel" 149 "ShareMonitorModel" "program" "[I" ∈ n_tb := n_a6 196 (by decide +kernel) rfl
theorem wfX12_152 : Cond.fieldLink "ShareMonitorModel" 152 "ShareMonitorModel" "next" "[I" ∈ n_tb := n_a6 197 (by decide +kernel) rfl
theorem wfX12_155 : Cond.fieldLink "ShareMonitorModel" 155 "ShareMonitorModel" "deep" "[I" ∈ n_tb := n_a6 198 (by decide +kernel) rfl
theorem wfX12_158 : Cond.fieldLink "ShareMonitorModel" 158 "ShareMonitorModel" "stack" "[I" ∈ n_tb := n_a6 199 (by decide +kernel) rfl
theorem wfX12_161 : Cond.fieldLink "ShareMonitorModel" 161 "ShareMonitorModel" "called" "[I" ∈ n_tb := n_a6 200 (by decide +kernel) rfl
theorem wfX12_164 : Cond.fieldLink "ShareMonitorModel" 164 "ShareMonitorModel" "returns" "[I" ∈ n_tb := n_a6 201 (by decide +kernel) rfl
theorem wfX12_167 : Cond.fieldLink "ShareMonitorModel" 167 "ShareMonitorModel" "boxed" "[I" ∈ n_tb := n_a6 202 (by decide +kernel) rfl
theorem wfX12_170 : Cond.fieldLink "ShareMonitorModel" 170 "ShareMonitorModel" "boxNumber" "[I" ∈ n_tb := n_a6 203 (by decide +kernel) rfl
theorem wfX12_173 : Cond.fieldLink "ShareMonitorModel" 173 "ShareMonitorModel" "boxWho" "[I" ∈ n_tb := n_a6 204 (by decide +kernel) rfl
theorem wfX12_176 : Cond.fieldLink "ShareMonitorModel" 176 "ShareMonitorModel" "keyed" "[I" ∈ n_tb := n_a6 205 (by decide +kernel) rfl
theorem wfX12_179 : Cond.fieldLink "ShareMonitorModel" 179 "ShareMonitorModel" "keys" "[I" ∈ n_tb := n_a6 206 (by decide +kernel) rfl
theorem wfX12_182 : Cond.fieldLink "ShareMonitorModel" 182 "ShareMonitorModel" "did" "[I" ∈ n_tb := n_a6 207 (by decide +kernel) rfl
theorem wfX12_185 : Cond.fieldLink "ShareMonitorModel" 185 "ShareMonitorModel" "waits" "[I" ∈ n_tb := n_a6 208 (by decide +kernel) rfl
theorem wfX12_188 : Cond.fieldLink "ShareMonitorModel" 188 "ShareMonitorModel" "inRow" "[I" ∈ n_tb := n_a6 209 (by decide +kernel) rfl
theorem wfX12_191 : Cond.fieldLink "ShareMonitorModel" 191 "ShareMonitorModel" "rows" "[I" ∈ n_tb := n_a6 210 (by decide +kernel) rfl
theorem wfX12_194 : Cond.fieldLink "ShareMonitorModel" 194 "ShareMonitorModel" "rowCount" "[I" ∈ n_tb := n_a6 211 (by decide +kernel) rfl
theorem wfX12_399 : Cond.fieldLink "ShareMonitorModel" 399 "ShareMonitorModel" "clock" "I" ∈ n_tb := n_a6 212 (by decide +kernel) rfl
theorem wfX12_197 : Cond.fieldLink "ShareMonitorModel" 197 "ShareMonitorModel" "quantum" "I" ∈ n_tb := n_a6 213 (by decide +kernel) rfl
theorem wfX12_200 : Cond.fieldLink "ShareMonitorModel" 200 "ShareMonitorModel" "values" "[I" ∈ n_tb := n_a6 214 (by decide +kernel) rfl
theorem wfX12_203 : Cond.fieldLink "ShareMonitorModel" 203 "ShareMonitorModel" "waiting" "[I" ∈ n_tb := n_a6 215 (by decide +kernel) rfl
theorem wfX12_206 : Cond.fieldLink "ShareMonitorModel" 206 "ShareMonitorModel" "waitCount" "[I" ∈ n_tb := n_a6 216 (by decide +kernel) rfl
theorem wfX12_209 : Cond.fieldLink "ShareMonitorModel" 209 "ShareMonitorModel" "cells" "[I" ∈ n_tb := n_a6 217 (by decide +kernel) rfl
theorem wfX12_212 : Cond.fieldLink "ShareMonitorModel" 212 "ShareMonitorModel" "blockAt" "[I" ∈ n_tb := n_a6 218 (by decide +kernel) rfl
theorem wfX12_215 : Cond.fieldLink "ShareMonitorModel" 215 "ShareMonitorModel" "blockSize" "[I" ∈ n_tb := n_a6 219 (by decide +kernel) rfl
theorem wfX12_218 : Cond.fieldLink "ShareMonitorModel" 218 "ShareMonitorModel" "blockOf" "[I" ∈ n_tb := n_a6 220 (by decide +kernel) rfl
theorem wfX12_221 : Cond.fieldLink "ShareMonitorModel" 221 "ShareMonitorModel" "blocks" "I" ∈ n_tb := n_a6 221 (by decide +kernel) rfl
theorem wfX12_224 : Cond.fieldLink "ShareMonitorModel" 224 "ShareMonitorModel" "console" "[I" ∈ n_tb := n_a6 222 (by decide +kernel) rfl
theorem wfX12_406 : Cond.fieldLink "ShareMonitorModel" 406 "ShareMonitorModel" "told" "I" ∈ n_tb := n_a6 223 (by decide +kernel) rfl
theorem wfX12_409 : Cond.fieldLink "ShareMonitorModel" 409 "ShareMonitorModel" "lost" "I" ∈ n_tb := n_a6 224 (by decide +kernel) rfl
theorem wfX12_392 : Cond.fieldLink "ShareMonitorModel" 392 "ShareMonitorModel" "moved" "Z" ∈ n_tb := n_a6 225 (by decide +kernel) rfl
theorem wmL_87 : Cond.methodLink "ShareMonitorLaw" 87 yX12_feed ∈ n_tb := n_a7 95 (by decide +kernel) rfl
theorem wi_yX12_feed : Cond.instanceMethod yX12_feed ∈ n_tb := n_a7 96 (by decide +kernel) rfl
theorem wv_yX12_feed : Cond.selects "ShareMonitorModel" yX12_feed yX12_feed ∈ n_tb := n_a7 97 (by decide +kernel) rfl
set_option maxRecDepth 100000 in
theorem wc_yX12_feed : Cond.code yX12_feed cX12_feed 8 (Option.some Jvm.ClassFile.FieldType.int) ∈ n_tb := n_a7 98 rfl rfl
theorem wmL_95 : Cond.methodLink "ShareMonitorLaw" 95 yX12_end ∈ n_tb := n_a7 99 (by decide +kernel) rfl
theorem wi_yX12_end : Cond.instanceMethod yX12_end ∈ n_tb := n_a7 100 (by decide +kernel) rfl
theorem wv_yX12_end : Cond.selects "ShareMonitorModel" yX12_end yX12_end ∈ n_tb := n_a7 101 (by decide +kernel) rfl
set_option maxRecDepth 100000 in
theorem wc_yX12_end : Cond.code yX12_end cX12_end 2 (Option.none : Option Jvm.ClassFile.FieldType) ∈ n_tb := n_a7 102 rfl rfl
theorem wmL_99 : Cond.methodLink "ShareMonitorLaw" 99 yX12_load ∈ n_tb := n_a7 103 (by decide +kernel) rfl
theorem wi_yX12_load : Cond.instanceMethod yX12_load ∈ n_tb := n_a7 104 (by decide +kernel) rfl
theorem wv_yX12_load : Cond.selects "ShareMonitorModel" yX12_load yX12_load ∈ n_tb := n_a7 105 (by decide +kernel) rfl
set_option maxRecDepth 100000 in
theorem wc_yX12_load : Cond.code yX12_load cX12_load 3 (Option.some Jvm.ClassFile.FieldType.int) ∈ n_tb := n_a7 106 rfl rfl
theorem wmX12_428 : Cond.methodLink "ShareMonitorModel" 428 yX12_free ∈ n_tb := n_a7 107 (by decide +kernel) rfl
theorem wi_yX12_free : Cond.instanceMethod yX12_free ∈ n_tb := n_a7 109 (by decide +kernel) rfl
set_option maxRecDepth 100000 in
theorem wc_yX12_free : Cond.code yX12_free cX12_free 2 (Option.some Jvm.ClassFile.FieldType.int) ∈ n_tb := n_a7 110 rfl rfl
theorem wmX12_432 : Cond.methodLink "ShareMonitorModel" 432 yX12_readAll ∈ n_tb := n_a7 111 (by decide +kernel) rfl
theorem wi_yX12_readAll : Cond.instanceMethod yX12_readAll ∈ n_tb := n_a7 113 (by decide +kernel) rfl
set_option maxRecDepth 100000 in
theorem wc_yX12_readAll : Cond.code yX12_readAll cX12_readAll 4 (Option.none : Option Jvm.ClassFile.FieldType) ∈ n_tb := n_a7 114 rfl rfl
theorem wmX12_300 : Cond.methodLink "ShareMonitorModel" 300 yX12_takeWord ∈ n_tb := n_a7 115 (by decide +kernel) rfl
theorem wi_yX12_takeWord : Cond.instanceMethod yX12_takeWord ∈ n_tb := n_a7 117 (by decide +kernel) rfl
set_option maxRecDepth 100000 in
theorem wc_yX12_takeWord : Cond.code yX12_takeWord cX12_takeWord 2 (Option.none : Option Jvm.ClassFile.FieldType) ∈ n_tb := n_a7 118 rfl rfl
theorem wmX12_233 : Cond.methodLink "ShareMonitorModel" 233 yX12_byteOf ∈ n_tb := n_a7 119 (by decide +kernel) rfl
theorem wi_yX12_byteOf : Cond.instanceMethod yX12_byteOf ∈ n_tb := n_a7 121 (by decide +kernel) rfl
set_option maxRecDepth 100000 in
theorem wc_yX12_byteOf : Cond.code yX12_byteOf cX12_byteOf 2 (Option.some Jvm.ClassFile.FieldType.int) ∈ n_tb := n_a7 122 rfl rfl
theorem wmX12_237 : Cond.methodLink "ShareMonitorModel" 237 yX12_isBlank ∈ n_tb := n_a7 123 (by decide +kernel) rfl
theorem ws_yX12_isBlank : Cond.static yX12_isBlank ∈ n_tb := n_a7 124 (by decide +kernel) rfl
set_option maxRecDepth 100000 in
theorem wc_yX12_isBlank : Cond.code yX12_isBlank cX12_isBlank 1 (Option.some Jvm.ClassFile.FieldType.boolean) ∈ n_tb := n_a7 125 rfl rfl
theorem wmX12_303 : Cond.methodLink "ShareMonitorModel" 303 yX12_readWord ∈ n_tb := n_a7 126 (by decide +kernel) rfl
theorem wi_yX12_readWord : Cond.instanceMethod yX12_readWord ∈ n_tb := n_a7 128 (by decide +kernel) rfl
set_option maxRecDepth 100000 in
theorem wc_yX12_readWord : Cond.code yX12_readWord cX12_readWord 3 (Option.none : Option Jvm.ClassFile.FieldType) ∈ n_tb := n_a7 129 rfl rfl
theorem wmX12_247 : Cond.methodLink "ShareMonitorModel" 247 yX12_operation ∈ n_tb := n_a7 130 (by decide +kernel) rfl
theorem wi_yX12_operation : Cond.instanceMethod yX12_operation ∈ n_tb := n_a7 132 (by decide +kernel) rfl
set_option maxRecDepth 100000 in
theorem wc_yX12_operation : Cond.code yX12_operation cX12_operation 8 (Option.some Jvm.ClassFile.FieldType.int) ∈ n_tb := n_a7 133 rfl rfl
theorem wmX12_288 : Cond.methodLink "ShareMonitorModel" 288 yX12_readLabel ∈ n_tb := n_a7 134 (by decide +kernel) rfl
theorem wi_yX12_readLabel : Cond.instanceMethod yX12_readLabel ∈ n_tb := n_a7 136 (by decide +kernel) rfl
set_option maxRecDepth 100000 in
theorem wc_yX12_readLabel : Cond.code yX12_readLabel cX12_readLabel 3 (Option.none : Option Jvm.ClassFile.FieldType) ∈ n_tb := n_a7 137 rfl rfl
theorem wmX12_277 : Cond.methodLink "ShareMonitorModel" 277 yX12_isName ∈ n_tb := n_a7 138 (by decide +kernel) rfl
theorem wi_yX12_isName : Cond.instanceMethod yX12_isName ∈ n_tb := n_a7 140 (by decide +kernel) rfl
set_option maxRecDepth 100000 in
theorem wc_yX12_isName : Cond.code yX12_isName cX12_isName 5 (Option.some Jvm.ClassFile.FieldType.boolean) ∈ n_tb := n_a7 141 rfl rfl
theorem wmX12_244 : Cond.methodLink "ShareMonitorModel" 244 yX12_isLetter ∈ n_tb := n_a7 142 (by decide +kernel) rfl
theorem ws_yX12_isLetter : Cond.static yX12_isLetter ∈ n_tb := n_a7 143 (by decide +kernel) rfl
set_option maxRecDepth 100000 in
theorem wc_yX12_isLetter : Cond.code yX12_isLetter cX12_isLetter 1 (Option.some Jvm.ClassFile.FieldType.boolean) ∈ n_tb := n_a7 144 rfl rfl
theorem wmX12_251 : Cond.methodLink "ShareMonitorModel" 251 yX12_isDigit ∈ n_tb := n_a7 145 (by decide +kernel) rfl
theorem ws_yX12_isDigit : Cond.static yX12_isDigit ∈ n_tb := n_a7 146 (by decide +kernel) rfl
set_option maxRecDepth 100000 in
theorem wc_yX12_isDigit : Cond.code yX12_isDigit cX12_isDigit 1 (Option.some Jvm.ClassFile.FieldType.boolean) ∈ n_tb := n_a7 147 rfl rfl
theorem wmX12_281 : Cond.methodLink "ShareMonitorModel" 281 yX12_flaw ∈ n_tb := n_a7 148 (by decide +kernel) rfl
theorem wi_yX12_flaw : Cond.instanceMethod yX12_flaw ∈ n_tb := n_a7 150 (by decide +kernel) rfl
set_option maxRecDepth 100000 in
theorem wc_yX12_flaw : Cond.code yX12_flaw cX12_flaw 3 (Option.none : Option Jvm.ClassFile.FieldType) ∈ n_tb := n_a7 151 rfl rfl
theorem wmX12_285 : Cond.methodLink "ShareMonitorModel" 285 yX12_labelOf ∈ n_tb := n_a7 152 (by decide +kernel) rfl
theorem wi_yX12_labelOf : Cond.instanceMethod yX12_labelOf ∈ n_tb := n_a7 154 (by decide +kernel) rfl
set_option maxRecDepth 100000 in
theorem wc_yX12_labelOf : Cond.code yX12_labelOf cX12_labelOf 7 (Option.some Jvm.ClassFile.FieldType.int) ∈ n_tb := n_a7 155 rfl rfl
theorem wmX12_292 : Cond.methodLink "ShareMonitorModel" 292 yX12_isNumber ∈ n_tb := n_a7 156 (by decide +kernel) rfl
theorem wi_yX12_isNumber : Cond.instanceMethod yX12_isNumber ∈ n_tb := n_a7 158 (by decide +kernel) rfl
set_option maxRecDepth 100000 in
theorem wc_yX12_isNumber : Cond.code yX12_isNumber cX12_isNumber 5 (Option.some Jvm.ClassFile.FieldType.boolean) ∈ n_tb := n_a7 159 rfl rfl
theorem wmX12_254 : Cond.methodLink "ShareMonitorModel" 254 yX12_valueOfWord ∈ n_tb := n_a7 160 (by decide +kernel) rfl
theorem wi_yX12_valueOfWord : Cond.instanceMethod yX12_valueOfWord ∈ n_tb := n_a7 162 (by decide +kernel) rfl
set_option maxRecDepth 100000 in
theorem wc_yX12_valueOfWord : Cond.code yX12_valueOfWord cX12_valueOfWord 5 (Option.some Jvm.ClassFile.FieldType.long) ∈ n_tb := n_a7 163 rfl rfl
theorem wmX12_296 : Cond.methodLink "ShareMonitorModel" 296 yX12_put ∈ n_tb := n_a7 169 (by decide +kernel) rfl
theorem wi_yX12_put : Cond.instanceMethod yX12_put ∈ n_tb := n_a7 171 (by decide +kernel) rfl
set_option maxRecDepth 100000 in
theorem wc_yX12_put : Cond.code yX12_put cX12_put 4 (Option.none : Option Jvm.ClassFile.FieldType) ∈ n_tb := n_a7 172 rfl rfl
theorem wmX12_373 : Cond.methodLink "ShareMonitorModel" 373 yX12_start ∈ n_tb := n_a7 173 (by decide +kernel) rfl
theorem wi_yX12_start : Cond.instanceMethod yX12_start ∈ n_tb := n_a7 175 (by decide +kernel) rfl
set_option maxRecDepth 100000 in
theorem wc_yX12_start : Cond.code yX12_start cX12_start 6 (Option.some Jvm.ClassFile.FieldType.int) ∈ n_tb := n_a7 176 rfl rfl
theorem wmX12_324 : Cond.methodLink "ShareMonitorModel" 324 yX12_wake ∈ n_tb := n_a7 177 (by decide +kernel) rfl
theorem wi_yX12_wake : Cond.instanceMethod yX12_wake ∈ n_tb := n_a7 179 (by decide +kernel) rfl
set_option maxRecDepth 100000 in
theorem wc_yX12_wake : Cond.code yX12_wake cX12_wake 2 (Option.none : Option Jvm.ClassFile.FieldType) ∈ n_tb := n_a7 180 rfl rfl
theorem wmX12_309 : Cond.methodLink "ShareMonitorModel" 309 yX12_joinRow ∈ n_tb := n_a7 181 (by decide +kernel) rfl
theorem wi_yX12_joinRow : Cond.instanceMethod yX12_joinRow ∈ n_tb := n_a7 183 (by decide +kernel) rfl
set_option maxRecDepth 100000 in
theorem wc_yX12_joinRow : Cond.code yX12_joinRow cX12_joinRow 3 (Option.none : Option Jvm.ClassFile.FieldType) ∈ n_tb := n_a7 184 rfl rfl
theorem wmL_103 : Cond.methodLink "ShareMonitorLaw" 103 yX12_fault ∈ n_tb := n_a7 185 (by decide +kernel) rfl
theorem wi_yX12_fault : Cond.instanceMethod yX12_fault ∈ n_tb := n_a7 186 (by decide +kernel) rfl
theorem wv_yX12_fault : Cond.selects "ShareMonitorModel" yX12_fault yX12_fault ∈ n_tb := n_a7 187 (by decide +kernel) rfl
set_option maxRecDepth 100000 in
theorem wc_yX12_fault : Cond.code yX12_fault cX12_fault 1 (Option.some Jvm.ClassFile.FieldType.int) ∈ n_tb := n_a7 188 rfl rfl
theorem wmL_107 : Cond.methodLink "ShareMonitorLaw" 107 yX12_tick ∈ n_tb := n_a7 189 (by decide +kernel) rfl
theorem wi_yX12_tick : Cond.instanceMethod yX12_tick ∈ n_tb := n_a7 190 (by decide +kernel) rfl
theorem wv_yX12_tick : Cond.selects "ShareMonitorModel" yX12_tick yX12_tick ∈ n_tb := n_a7 191 (by decide +kernel) rfl
set_option maxRecDepth 100000 in
theorem wc_yX12_tick : Cond.code yX12_tick cX12_tick 1 (Option.some Jvm.ClassFile.FieldType.int) ∈ n_tb := n_a7 192 rfl rfl
theorem wmX12_435 : Cond.methodLink "ShareMonitorModel" 435 yX12_turn ∈ n_tb := n_a7 193 (by decide +kernel) rfl
theorem wi_yX12_turn : Cond.instanceMethod yX12_turn ∈ n_tb := n_a7 195 (by decide +kernel) rfl
set_option maxRecDepth 100000 in
theorem wc_yX12_turn : Cond.code yX12_turn cX12_turn 3 (Option.some Jvm.ClassFile.FieldType.int) ∈ n_tb := n_a7 196 rfl rfl
theorem wmX12_422 : Cond.methodLink "ShareMonitorModel" 422 yX12_wakeSleepers ∈ n_tb := n_a7 197 (by decide +kernel) rfl
theorem wi_yX12_wakeSleepers : Cond.instanceMethod yX12_wakeSleepers ∈ n_tb := n_a7 199 (by decide +kernel) rfl
set_option maxRecDepth 100000 in
theorem wc_yX12_wakeSleepers : Cond.code yX12_wakeSleepers cX12_wakeSleepers 4 (Option.none : Option Jvm.ClassFile.FieldType) ∈ n_tb := n_a7 200 rfl rfl
theorem wmX12_425 : Cond.methodLink "ShareMonitorModel" 425 yX12_act ∈ n_tb := n_a7 201 (by decide +kernel) rfl
theorem wi_yX12_act : Cond.instanceMethod yX12_act ∈ n_tb := n_a7 203 (by decide +kernel) rfl
set_option maxRecDepth 100000 in
theorem wc_yX12_act : Cond.code yX12_act cX12_act 4 (Option.none : Option Jvm.ClassFile.FieldType) ∈ n_tb := n_a7 204 rfl rfl
theorem wmX12_330 : Cond.methodLink "ShareMonitorModel" 330 yX12_finish ∈ n_tb := n_a7 205 (by decide +kernel) rfl
theorem wi_yX12_finish : Cond.instanceMethod yX12_finish ∈ n_tb := n_a7 207 (by decide +kernel) rfl
set_option maxRecDepth 100000 in
theorem wc_yX12_finish : Cond.code yX12_finish cX12_finish 4 (Option.none : Option Jvm.ClassFile.FieldType) ∈ n_tb := n_a7 208 rfl rfl
theorem wmX12_306 : Cond.methodLink "ShareMonitorModel" 306 yX12_leaveRow ∈ n_tb := n_a7 209 (by decide +kernel) rfl
theorem wi_yX12_leaveRow : Cond.instanceMethod yX12_leaveRow ∈ n_tb := n_a7 211 (by decide +kernel) rfl
set_option maxRecDepth 100000 in
theorem wc_yX12_leaveRow : Cond.code yX12_leaveRow cX12_leaveRow 6 (Option.none : Option Jvm.ClassFile.FieldType) ∈ n_tb := n_a7 212 rfl rfl
theorem wmX12_315 : Cond.methodLink "ShareMonitorModel" 315 yX12_leaveSemaphore ∈ n_tb := n_a7 213 (by decide +kernel) rfl
theorem wi_yX12_leaveSemaphore : Cond.instanceMethod yX12_leaveSemaphore ∈ n_tb := n_a7 215 (by decide +kernel) rfl
set_option maxRecDepth 100000 in
theorem wc_yX12_leaveSemaphore : Cond.code yX12_leaveSemaphore cX12_leaveSemaphore 6 (Option.none : Option Jvm.ClassFile.FieldType) ∈ n_tb := n_a7 216 rfl rfl
theorem wmX12_318 : Cond.methodLink "ShareMonitorModel" 318 yX12_joinBlocks ∈ n_tb := n_a7 217 (by decide +kernel) rfl
theorem wi_yX12_joinBlocks : Cond.instanceMethod yX12_joinBlocks ∈ n_tb := n_a7 219 (by decide +kernel) rfl
set_option maxRecDepth 100000 in
theorem wc_yX12_joinBlocks : Cond.code yX12_joinBlocks cX12_joinBlocks 3 (Option.none : Option Jvm.ClassFile.FieldType) ∈ n_tb := n_a7 220 rfl rfl
theorem wmX12_321 : Cond.methodLink "ShareMonitorModel" 321 yX12_release ∈ n_tb := n_a7 221 (by decide +kernel) rfl
theorem wi_yX12_release : Cond.instanceMethod yX12_release ∈ n_tb := n_a7 223 (by decide +kernel) rfl
set_option maxRecDepth 100000 in
theorem wc_yX12_release : Cond.code yX12_release cX12_release 2 (Option.none : Option Jvm.ClassFile.FieldType) ∈ n_tb := n_a7 224 rfl rfl
theorem wmX12_327 : Cond.methodLink "ShareMonitorModel" 327 yX12_sweep ∈ n_tb := n_a7 225 (by decide +kernel) rfl
theorem wi_yX12_sweep : Cond.instanceMethod yX12_sweep ∈ n_tb := n_a7 227 (by decide +kernel) rfl
set_option maxRecDepth 100000 in
theorem wc_yX12_sweep : Cond.code yX12_sweep cX12_sweep 4 (Option.none : Option Jvm.ClassFile.FieldType) ∈ n_tb := n_a7 228 rfl rfl
theorem wmX12_342 : Cond.methodLink "ShareMonitorModel" 342 yX12_fits ∈ n_tb := n_a7 229 (by decide +kernel) rfl
theorem wi_yX12_fits : Cond.instanceMethod yX12_fits ∈ n_tb := n_a7 231 (by decide +kernel) rfl
set_option maxRecDepth 100000 in
theorem wc_yX12_fits : Cond.code yX12_fits cX12_fits 3 (Option.some Jvm.ClassFile.FieldType.boolean) ∈ n_tb := n_a7 232 rfl rfl
theorem wmX12_345 : Cond.methodLink "ShareMonitorModel" 345 yX12_result ∈ n_tb := n_a7 233 (by decide +kernel) rfl
theorem wi_yX12_result : Cond.instanceMethod yX12_result ∈ n_tb := n_a7 235 (by decide +kernel) rfl
set_option maxRecDepth 100000 in
theorem wc_yX12_result : Cond.code yX12_result cX12_result 4 (Option.none : Option Jvm.ClassFile.FieldType) ∈ n_tb := n_a7 236 rfl rfl
theorem wmX12_333 : Cond.methodLink "ShareMonitorModel" 333 yX12_push ∈ n_tb := n_a7 237 (by decide +kernel) rfl
theorem wi_yX12_push : Cond.instanceMethod yX12_push ∈ n_tb := n_a7 239 (by decide +kernel) rfl
set_option maxRecDepth 100000 in
theorem wc_yX12_push : Cond.code yX12_push cX12_push 3 (Option.none : Option Jvm.ClassFile.FieldType) ∈ n_tb := n_a8 0 rfl rfl
theorem wmX12_336 : Cond.methodLink "ShareMonitorModel" 336 yX12_done ∈ n_tb := n_a8 1 (by decide +kernel) rfl
theorem wi_yX12_done : Cond.instanceMethod yX12_done ∈ n_tb := n_a8 3 (by decide +kernel) rfl
set_option maxRecDepth 100000 in
theorem wc_yX12_done : Cond.code yX12_done cX12_done 2 (Option.none : Option Jvm.ClassFile.FieldType) ∈ n_tb := n_a8 4 rfl rfl
theorem wmX12_413 : Cond.methodLink "ShareMonitorModel" 413 yX12_plain ∈ n_tb := n_a8 5 (by decide +kernel) rfl
theorem wi_yX12_plain : Cond.instanceMethod yX12_plain ∈ n_tb := n_a8 7 (by decide +kernel) rfl
set_option maxRecDepth 100000 in
theorem wc_yX12_plain : Cond.code yX12_plain cX12_plain 5 (Option.none : Option Jvm.ClassFile.FieldType) ∈ n_tb := n_a8 8 rfl rfl
theorem wmX12_339 : Cond.methodLink "ShareMonitorModel" 339 yX12_top ∈ n_tb := n_a8 9 (by decide +kernel) rfl
theorem wi_yX12_top : Cond.instanceMethod yX12_top ∈ n_tb := n_a8 11 (by decide +kernel) rfl
set_option maxRecDepth 100000 in
theorem wc_yX12_top : Cond.code yX12_top cX12_top 3 (Option.some Jvm.ClassFile.FieldType.int) ∈ n_tb := n_a8 12 rfl rfl
theorem wmX12_348 : Cond.methodLink "ShareMonitorModel" 348 yX12_setTop ∈ n_tb := n_a8 13 (by decide +kernel) rfl
theorem wi_yX12_setTop : Cond.instanceMethod yX12_setTop ∈ n_tb := n_a8 15 (by decide +kernel) rfl
set_option maxRecDepth 100000 in
theorem wc_yX12_setTop : Cond.code yX12_setTop cX12_setTop 4 (Option.none : Option Jvm.ClassFile.FieldType) ∈ n_tb := n_a8 16 rfl rfl
theorem wmX12_351 : Cond.methodLink "ShareMonitorModel" 351 yX12_reckoned ∈ n_tb := n_a8 17 (by decide +kernel) rfl
theorem ws_yX12_reckoned : Cond.static yX12_reckoned ∈ n_tb := n_a8 18 (by decide +kernel) rfl
set_option maxRecDepth 100000 in
theorem wc_yX12_reckoned : Cond.code yX12_reckoned cX12_reckoned 3 (Option.some Jvm.ClassFile.FieldType.int) ∈ n_tb := n_a8 19 rfl rfl
theorem wmX12_416 : Cond.methodLink "ShareMonitorModel" 416 yX12_memory ∈ n_tb := n_a8 20 (by decide +kernel) rfl
theorem wi_yX12_memory : Cond.instanceMethod yX12_memory ∈ n_tb := n_a8 22 (by decide +kernel) rfl
set_option maxRecDepth 100000 in
theorem wc_yX12_memory : Cond.code yX12_memory cX12_memory 6 (Option.none : Option Jvm.ClassFile.FieldType) ∈ n_tb := n_a8 23 rfl rfl
theorem wmX12_355 : Cond.methodLink "ShareMonitorModel" 355 yX12_holds ∈ n_tb := n_a8 24 (by decide +kernel) rfl
theorem wi_yX12_holds : Cond.instanceMethod yX12_holds ∈ n_tb := n_a8 26 (by decide +kernel) rfl
set_option maxRecDepth 100000 in
theorem wc_yX12_holds : Cond.code yX12_holds cX12_holds 5 (Option.some Jvm.ClassFile.FieldType.boolean) ∈ n_tb := n_a8 27 rfl rfl
theorem wmX12_358 : Cond.methodLink "ShareMonitorModel" 358 yX12_allocate ∈ n_tb := n_a8 28 (by decide +kernel) rfl
theorem wi_yX12_allocate : Cond.instanceMethod yX12_allocate ∈ n_tb := n_a8 30 (by decide +kernel) rfl
set_option maxRecDepth 100000 in
theorem wc_yX12_allocate : Cond.code yX12_allocate cX12_allocate 5 (Option.some Jvm.ClassFile.FieldType.int) ∈ n_tb := n_a8 31 rfl rfl
theorem wmX12_361 : Cond.methodLink "ShareMonitorModel" 361 yX12_blockFrom ∈ n_tb := n_a8 32 (by decide +kernel) rfl
theorem wi_yX12_blockFrom : Cond.instanceMethod yX12_blockFrom ∈ n_tb := n_a8 34 (by decide +kernel) rfl
set_option maxRecDepth 100000 in
theorem wc_yX12_blockFrom : Cond.code yX12_blockFrom cX12_blockFrom 5 (Option.some Jvm.ClassFile.FieldType.int) ∈ n_tb := n_a8 35 rfl rfl
theorem wmX12_364 : Cond.methodLink "ShareMonitorModel" 364 yX12_isAlive ∈ n_tb := n_a8 36 (by decide +kernel) rfl
theorem wi_yX12_isAlive : Cond.instanceMethod yX12_isAlive ∈ n_tb := n_a8 38 (by decide +kernel) rfl
set_option maxRecDepth 100000 in
theorem wc_yX12_isAlive : Cond.code yX12_isAlive cX12_isAlive 2 (Option.some Jvm.ClassFile.FieldType.boolean) ∈ n_tb := n_a8 39 rfl rfl
theorem wmX12_312 : Cond.methodLink "ShareMonitorModel" 312 yX12_isProcess ∈ n_tb := n_a8 40 (by decide +kernel) rfl
theorem wi_yX12_isProcess : Cond.instanceMethod yX12_isProcess ∈ n_tb := n_a8 42 (by decide +kernel) rfl
set_option maxRecDepth 100000 in
theorem wc_yX12_isProcess : Cond.code yX12_isProcess cX12_isProcess 2 (Option.some Jvm.ClassFile.FieldType.boolean) ∈ n_tb := n_a8 43 rfl rfl
theorem wmX12_419 : Cond.methodLink "ShareMonitorModel" 419 yX12_others ∈ n_tb := n_a8 44 (by decide +kernel) rfl
theorem wi_yX12_others : Cond.instanceMethod yX12_others ∈ n_tb := n_a8 46 (by decide +kernel) rfl
set_option maxRecDepth 100000 in
theorem wc_yX12_others : Cond.code yX12_others cX12_others 6 (Option.none : Option Jvm.ClassFile.FieldType) ∈ n_tb := n_a8 47 rfl rfl
theorem wmX12_377 : Cond.methodLink "ShareMonitorModel" 377 yX12_spawn ∈ n_tb := n_a8 48 (by decide +kernel) rfl
theorem wi_yX12_spawn : Cond.instanceMethod yX12_spawn ∈ n_tb := n_a8 50 (by decide +kernel) rfl
set_option maxRecDepth 100000 in
theorem wc_yX12_spawn : Cond.code yX12_spawn cX12_spawn 4 (Option.none : Option Jvm.ClassFile.FieldType) ∈ n_tb := n_a8 51 rfl rfl
theorem wmX12_380 : Cond.methodLink "ShareMonitorModel" 380 yX12_deliver ∈ n_tb := n_a8 52 (by decide +kernel) rfl
theorem wi_yX12_deliver : Cond.instanceMethod yX12_deliver ∈ n_tb := n_a8 54 (by decide +kernel) rfl
set_option maxRecDepth 100000 in
theorem wc_yX12_deliver : Cond.code yX12_deliver cX12_deliver 4 (Option.some Jvm.ClassFile.FieldType.int) ∈ n_tb := n_a8 55 rfl rfl
theorem wmX12_383 : Cond.methodLink "ShareMonitorModel" 383 yX12_receive ∈ n_tb := n_a8 56 (by decide +kernel) rfl
theorem wi_yX12_receive : Cond.instanceMethod yX12_receive ∈ n_tb := n_a8 58 (by decide +kernel) rfl
set_option maxRecDepth 100000 in
theorem wc_yX12_receive : Cond.code yX12_receive cX12_receive 3 (Option.none : Option Jvm.ClassFile.FieldType) ∈ n_tb := n_a8 59 rfl rfl
theorem wmX12_367 : Cond.methodLink "ShareMonitorModel" 367 yX12_waitFor ∈ n_tb := n_a8 60 (by decide +kernel) rfl
theorem wi_yX12_waitFor : Cond.instanceMethod yX12_waitFor ∈ n_tb := n_a8 62 (by decide +kernel) rfl
set_option maxRecDepth 100000 in
theorem wc_yX12_waitFor : Cond.code yX12_waitFor cX12_waitFor 4 (Option.none : Option Jvm.ClassFile.FieldType) ∈ n_tb := n_a8 63 rfl rfl
theorem wmX12_386 : Cond.methodLink "ShareMonitorModel" 386 yX12_await ∈ n_tb := n_a8 64 (by decide +kernel) rfl
theorem wi_yX12_await : Cond.instanceMethod yX12_await ∈ n_tb := n_a8 66 (by decide +kernel) rfl
set_option maxRecDepth 100000 in
theorem wc_yX12_await : Cond.code yX12_await cX12_await 4 (Option.none : Option Jvm.ClassFile.FieldType) ∈ n_tb := n_a8 67 rfl rfl
theorem wmX12_370 : Cond.methodLink "ShareMonitorModel" 370 yX12_isChild ∈ n_tb := n_a8 68 (by decide +kernel) rfl
theorem wi_yX12_isChild : Cond.instanceMethod yX12_isChild ∈ n_tb := n_a8 70 (by decide +kernel) rfl
set_option maxRecDepth 100000 in
theorem wc_yX12_isChild : Cond.code yX12_isChild cX12_isChild 3 (Option.some Jvm.ClassFile.FieldType.boolean) ∈ n_tb := n_a8 71 rfl rfl
theorem wmX12_389 : Cond.methodLink "ShareMonitorModel" 389 yX12_shares ∈ n_tb := n_a8 72 (by decide +kernel) rfl
theorem wi_yX12_shares : Cond.instanceMethod yX12_shares ∈ n_tb := n_a8 74 (by decide +kernel) rfl
set_option maxRecDepth 100000 in
theorem wc_yX12_shares : Cond.code yX12_shares cX12_shares 5 (Option.none : Option Jvm.ClassFile.FieldType) ∈ n_tb := n_a8 75 rfl rfl
theorem wmX12_396 : Cond.methodLink "ShareMonitorModel" 396 yX12_toEnd ∈ n_tb := n_a8 76 (by decide +kernel) rfl
theorem wi_yX12_toEnd : Cond.instanceMethod yX12_toEnd ∈ n_tb := n_a8 78 (by decide +kernel) rfl
set_option maxRecDepth 100000 in
theorem wc_yX12_toEnd : Cond.code yX12_toEnd cX12_toEnd 2 (Option.none : Option Jvm.ClassFile.FieldType) ∈ n_tb := n_a8 79 rfl rfl
theorem wmX12_403 : Cond.methodLink "ShareMonitorModel" 403 yX12_semaphore ∈ n_tb := n_a8 81 (by decide +kernel) rfl
theorem wi_yX12_semaphore : Cond.instanceMethod yX12_semaphore ∈ n_tb := n_a8 83 (by decide +kernel) rfl
set_option maxRecDepth 100000 in
theorem wc_yX12_semaphore : Cond.code yX12_semaphore cX12_semaphore 6 (Option.none : Option Jvm.ClassFile.FieldType) ∈ n_tb := n_a8 84 rfl rfl
theorem wmL_110 : Cond.methodLink "ShareMonitorLaw" 110 yX12_run ∈ n_tb := n_a8 86 (by decide +kernel) rfl
theorem wi_yX12_run : Cond.instanceMethod yX12_run ∈ n_tb := n_a8 87 (by decide +kernel) rfl
theorem wv_yX12_run : Cond.selects "ShareMonitorModel" yX12_run yX12_run ∈ n_tb := n_a8 88 (by decide +kernel) rfl
set_option maxRecDepth 100000 in
theorem wc_yX12_run : Cond.code yX12_run cX12_run 4 (Option.some Jvm.ClassFile.FieldType.int) ∈ n_tb := n_a8 89 rfl rfl
theorem wmL_113 : Cond.methodLink "ShareMonitorLaw" 113 yX12_quantum ∈ n_tb := n_a8 90 (by decide +kernel) rfl
theorem wi_yX12_quantum : Cond.instanceMethod yX12_quantum ∈ n_tb := n_a8 91 (by decide +kernel) rfl
theorem wv_yX12_quantum : Cond.selects "ShareMonitorModel" yX12_quantum yX12_quantum ∈ n_tb := n_a8 92 (by decide +kernel) rfl
set_option maxRecDepth 100000 in
theorem wc_yX12_quantum : Cond.code yX12_quantum cX12_quantum 3 (Option.some Jvm.ClassFile.FieldType.int) ∈ n_tb := n_a8 93 rfl rfl
theorem wmL_116 : Cond.methodLink "ShareMonitorLaw" 116 yX12_kill ∈ n_tb := n_a8 94 (by decide +kernel) rfl
theorem wi_yX12_kill : Cond.instanceMethod yX12_kill ∈ n_tb := n_a8 95 (by decide +kernel) rfl
theorem wv_yX12_kill : Cond.selects "ShareMonitorModel" yX12_kill yX12_kill ∈ n_tb := n_a8 96 (by decide +kernel) rfl
set_option maxRecDepth 100000 in
theorem wc_yX12_kill : Cond.code yX12_kill cX12_kill 2 (Option.some Jvm.ClassFile.FieldType.boolean) ∈ n_tb := n_a8 97 rfl rfl
theorem wmL_119 : Cond.methodLink "ShareMonitorLaw" 119 yX12_reap ∈ n_tb := n_a8 98 (by decide +kernel) rfl
theorem wi_yX12_reap : Cond.instanceMethod yX12_reap ∈ n_tb := n_a8 99 (by decide +kernel) rfl
theorem wv_yX12_reap : Cond.selects "ShareMonitorModel" yX12_reap yX12_reap ∈ n_tb := n_a8 100 (by decide +kernel) rfl
set_option maxRecDepth 100000 in
theorem wc_yX12_reap : Cond.code yX12_reap cX12_reap 3 (Option.some Jvm.ClassFile.FieldType.int) ∈ n_tb := n_a8 101 rfl rfl
theorem wmL_123 : Cond.methodLink "ShareMonitorLaw" 123 yX12_key ∈ n_tb := n_a8 102 (by decide +kernel) rfl
theorem wi_yX12_key : Cond.instanceMethod yX12_key ∈ n_tb := n_a8 103 (by decide +kernel) rfl
theorem wv_yX12_key : Cond.selects "ShareMonitorModel" yX12_key yX12_key ∈ n_tb := n_a8 104 (by decide +kernel) rfl
set_option maxRecDepth 100000 in
theorem wc_yX12_key : Cond.code yX12_key cX12_key 3 (Option.some Jvm.ClassFile.FieldType.boolean) ∈ n_tb := n_a8 105 rfl rfl
theorem wmL_126 : Cond.methodLink "ShareMonitorLaw" 126 yX12_post ∈ n_tb := n_a8 106 (by decide +kernel) rfl
theorem wi_yX12_post : Cond.instanceMethod yX12_post ∈ n_tb := n_a8 107 (by decide +kernel) rfl
theorem wv_yX12_post : Cond.selects "ShareMonitorModel" yX12_post yX12_post ∈ n_tb := n_a8 108 (by decide +kernel) rfl
set_option maxRecDepth 100000 in
theorem wc_yX12_post : Cond.code yX12_post cX12_post 3 (Option.some Jvm.ClassFile.FieldType.boolean) ∈ n_tb := n_a8 109 rfl rfl
theorem wmL_129 : Cond.methodLink "ShareMonitorLaw" 129 yX12_state ∈ n_tb := n_a8 110 (by decide +kernel) rfl
theorem wi_yX12_state : Cond.instanceMethod yX12_state ∈ n_tb := n_a8 111 (by decide +kernel) rfl
theorem wv_yX12_state : Cond.selects "ShareMonitorModel" yX12_state yX12_state ∈ n_tb := n_a8 112 (by decide +kernel) rfl
set_option maxRecDepth 100000 in
theorem wc_yX12_state : Cond.code yX12_state cX12_state 4 (Option.some Jvm.ClassFile.FieldType.int) ∈ n_tb := n_a8 113 rfl rfl
theorem wmX12_438 : Cond.methodLink "ShareMonitorModel" 438 yX12_held ∈ n_tb := n_a8 114 (by decide +kernel) rfl
theorem wi_yX12_held : Cond.instanceMethod yX12_held ∈ n_tb := n_a8 116 (by decide +kernel) rfl
set_option maxRecDepth 100000 in
theorem wc_yX12_held : Cond.code yX12_held cX12_held 4 (Option.some Jvm.ClassFile.FieldType.int) ∈ n_tb := n_a8 117 rfl rfl
theorem wmL_132 : Cond.methodLink "ShareMonitorLaw" 132 yX12_stack ∈ n_tb := n_a8 118 (by decide +kernel) rfl
theorem wi_yX12_stack : Cond.instanceMethod yX12_stack ∈ n_tb := n_a8 119 (by decide +kernel) rfl
theorem wv_yX12_stack : Cond.selects "ShareMonitorModel" yX12_stack yX12_stack ∈ n_tb := n_a8 120 (by decide +kernel) rfl
set_option maxRecDepth 100000 in
theorem wc_yX12_stack : Cond.code yX12_stack cX12_stack 3 (Option.some Jvm.ClassFile.FieldType.int) ∈ n_tb := n_a8 121 rfl rfl
theorem wmL_136 : Cond.methodLink "ShareMonitorLaw" 136 yX12_message ∈ n_tb := n_a8 122 (by decide +kernel) rfl
theorem wi_yX12_message : Cond.instanceMethod yX12_message ∈ n_tb := n_a8 123 (by decide +kernel) rfl
theorem wv_yX12_message : Cond.selects "ShareMonitorModel" yX12_message yX12_message ∈ n_tb := n_a8 124 (by decide +kernel) rfl
set_option maxRecDepth 100000 in
theorem wc_yX12_message : Cond.code yX12_message cX12_message 4 (Option.some Jvm.ClassFile.FieldType.int) ∈ n_tb := n_a8 125 rfl rfl
theorem wmL_139 : Cond.methodLink "ShareMonitorLaw" 139 yX12_ready ∈ n_tb := n_a8 126 (by decide +kernel) rfl
theorem wi_yX12_ready : Cond.instanceMethod yX12_ready ∈ n_tb := n_a8 127 (by decide +kernel) rfl
theorem wv_yX12_ready : Cond.selects "ShareMonitorModel" yX12_ready yX12_ready ∈ n_tb := n_a8 128 (by decide +kernel) rfl
set_option maxRecDepth 100000 in
theorem wc_yX12_ready : Cond.code yX12_ready cX12_ready 3 (Option.some Jvm.ClassFile.FieldType.int) ∈ n_tb := n_a8 129 rfl rfl
theorem wmL_142 : Cond.methodLink "ShareMonitorLaw" 142 yX12_cell ∈ n_tb := n_a8 130 (by decide +kernel) rfl
theorem wi_yX12_cell : Cond.instanceMethod yX12_cell ∈ n_tb := n_a8 131 (by decide +kernel) rfl
theorem wv_yX12_cell : Cond.selects "ShareMonitorModel" yX12_cell yX12_cell ∈ n_tb := n_a8 132 (by decide +kernel) rfl
set_option maxRecDepth 100000 in
theorem wc_yX12_cell : Cond.code yX12_cell cX12_cell 2 (Option.some Jvm.ClassFile.FieldType.int) ∈ n_tb := n_a8 133 rfl rfl
theorem wmL_145 : Cond.methodLink "ShareMonitorLaw" 145 yX12_block ∈ n_tb := n_a8 134 (by decide +kernel) rfl
theorem wi_yX12_block : Cond.instanceMethod yX12_block ∈ n_tb := n_a8 135 (by decide +kernel) rfl
theorem wv_yX12_block : Cond.selects "ShareMonitorModel" yX12_block yX12_block ∈ n_tb := n_a8 136 (by decide +kernel) rfl
set_option maxRecDepth 100000 in
theorem wc_yX12_block : Cond.code yX12_block cX12_block 3 (Option.some Jvm.ClassFile.FieldType.int) ∈ n_tb := n_a8 137 rfl rfl
theorem wmL_148 : Cond.methodLink "ShareMonitorLaw" 148 yX12_semaphore_ ∈ n_tb := n_a8 138 (by decide +kernel) rfl
theorem wi_yX12_semaphore_ : Cond.instanceMethod yX12_semaphore_ ∈ n_tb := n_a8 139 (by decide +kernel) rfl
theorem wv_yX12_semaphore_ : Cond.selects "ShareMonitorModel" yX12_semaphore_ yX12_semaphore_ ∈ n_tb := n_a8 140 (by decide +kernel) rfl
set_option maxRecDepth 100000 in
theorem wc_yX12_semaphore_ : Cond.code yX12_semaphore_ cX12_semaphore_ 3 (Option.some Jvm.ClassFile.FieldType.int) ∈ n_tb := n_a8 141 rfl rfl
theorem wmL_151 : Cond.methodLink "ShareMonitorLaw" 151 yX12_out ∈ n_tb := n_a8 142 (by decide +kernel) rfl
theorem wi_yX12_out : Cond.instanceMethod yX12_out ∈ n_tb := n_a8 143 (by decide +kernel) rfl
theorem wv_yX12_out : Cond.selects "ShareMonitorModel" yX12_out yX12_out ∈ n_tb := n_a8 144 (by decide +kernel) rfl
set_option maxRecDepth 100000 in
theorem wc_yX12_out : Cond.code yX12_out cX12_out 2 (Option.some Jvm.ClassFile.FieldType.int) ∈ n_tb := n_a8 145 rfl rfl
theorem wmL_154 : Cond.methodLink "ShareMonitorLaw" 154 yX12_count ∈ n_tb := n_a8 146 (by decide +kernel) rfl
theorem wi_yX12_count : Cond.instanceMethod yX12_count ∈ n_tb := n_a8 147 (by decide +kernel) rfl
theorem wv_yX12_count : Cond.selects "ShareMonitorModel" yX12_count yX12_count ∈ n_tb := n_a8 148 (by decide +kernel) rfl
set_option maxRecDepth 100000 in
theorem wc_yX12_count : Cond.code yX12_count cX12_count 5 (Option.some Jvm.ClassFile.FieldType.int) ∈ n_tb := n_a8 149 rfl rfl
theorem wmX12_441 : Cond.methodLink "ShareMonitorModel" 441 yX12_processes ∈ n_tb := n_a8 150 (by decide +kernel) rfl
theorem wi_yX12_processes : Cond.instanceMethod yX12_processes ∈ n_tb := n_a8 152 (by decide +kernel) rfl
set_option maxRecDepth 100000 in
theorem wc_yX12_processes : Cond.code yX12_processes cX12_processes 5 (Option.some Jvm.ClassFile.FieldType.int) ∈ n_tb := n_a8 153 rfl rfl
theorem wfX4_154 : Cond.fieldLink "ShareMonitor$Op" 154 "ShareMonitor$Op" "text" "Ljava/lang/String;" ∈ n_tb := n_a8 164 (by decide +kernel) rfl
theorem wfX10_76 : Cond.fieldLink "ShareMonitor$Worker" 76 "ShareMonitor$Op" "needs" "I" ∈ n_tb := n_a8 165 (by decide +kernel) rfl
theorem wfX10_85 : Cond.fieldLink "ShareMonitor$Worker" 85 "ShareMonitor$Op" "grows" "I" ∈ n_tb := n_a8 166 (by decide +kernel) rfl
theorem wfX10_131 : Cond.fieldLink "ShareMonitor$Worker" 131 "ShareMonitor$Op" "kind" "I" ∈ n_tb := n_a8 167 (by decide +kernel) rfl
theorem wv_yX10_obstacleTo : Cond.selects "ShareMonitor$Worker" yX10_obstacleTo yX10_obstacleTo ∈ n_tb := n_sel (q := (yX10_obstacleTo, 2)) (List.mem_of_getElem? (i := 0) rfl) rfl
theorem wv_yX10_mustWait : Cond.selects "ShareMonitor$Worker" yX10_mustWait yX10_mustWait ∈ n_tb := n_sel (q := (yX10_mustWait, 2)) (List.mem_of_getElem? (i := 1) rfl) rfl
theorem wv_yX10_perform : Cond.selects "ShareMonitor$Worker" yX10_perform yX10_perform ∈ n_tb := n_sel (q := (yX10_perform, 2)) (List.mem_of_getElem? (i := 2) rfl) rfl
theorem wv_yX10_shuffle : Cond.selects "ShareMonitor$Worker" yX10_shuffle yX10_shuffle ∈ n_tb := n_sel (q := (yX10_shuffle, 2)) (List.mem_of_getElem? (i := 3) rfl) rfl
theorem wv_yX10_shuffleSeveral : Cond.selects "ShareMonitor$Worker" yX10_shuffleSeveral yX10_shuffleSeveral ∈ n_tb := n_sel (q := (yX10_shuffleSeveral, 2)) (List.mem_of_getElem? (i := 4) rfl) rfl
theorem wv_yX10_compute : Cond.selects "ShareMonitor$Worker" yX10_compute yX10_compute ∈ n_tb := n_sel (q := (yX10_compute, 2)) (List.mem_of_getElem? (i := 5) rfl) rfl
theorem wv_yX10_follow : Cond.selects "ShareMonitor$Worker" yX10_follow yX10_follow ∈ n_tb := n_sel (q := (yX10_follow, 2)) (List.mem_of_getElem? (i := 6) rfl) rfl
theorem wv_yX10_useMemory : Cond.selects "ShareMonitor$Worker" yX10_useMemory yX10_useMemory ∈ n_tb := n_sel (q := (yX10_useMemory, 2)) (List.mem_of_getElem? (i := 7) rfl) rfl
theorem wv_yX3_cut : Cond.selects "ShareMonitor$Memory" yX3_cut yX3_cut ∈ n_tb := n_sel (q := (yX3_cut, 3)) (List.mem_of_getElem? (i := 8) rfl) rfl
theorem wv_yX10_release : Cond.selects "ShareMonitor$Worker" yX10_release yX10_release ∈ n_tb := n_sel (q := (yX10_release, 2)) (List.mem_of_getElem? (i := 10) rfl) rfl
theorem wv_yX10_give : Cond.selects "ShareMonitor$Worker" yX10_give yX10_give ∈ n_tb := n_sel (q := (yX10_give, 2)) (List.mem_of_getElem? (i := 11) rfl) rfl
theorem wv_yX10_talk : Cond.selects "ShareMonitor$Worker" yX10_talk yX10_talk ∈ n_tb := n_sel (q := (yX10_talk, 2)) (List.mem_of_getElem? (i := 12) rfl) rfl
theorem wv_yX10_send : Cond.selects "ShareMonitor$Worker" yX10_send yX10_send ∈ n_tb := n_sel (q := (yX10_send, 2)) (List.mem_of_getElem? (i := 13) rfl) rfl
theorem wv_yX10_useChildren : Cond.selects "ShareMonitor$Worker" yX10_useChildren yX10_useChildren ∈ n_tb := n_sel (q := (yX10_useChildren, 2)) (List.mem_of_getElem? (i := 14) rfl) rfl
theorem wv_yX10_spawn : Cond.selects "ShareMonitor$Worker" yX10_spawn yX10_spawn ∈ n_tb := n_sel (q := (yX10_spawn, 2)) (List.mem_of_getElem? (i := 15) rfl) rfl
theorem wv_yX10_collect : Cond.selects "ShareMonitor$Worker" yX10_collect yX10_collect ∈ n_tb := n_sel (q := (yX10_collect, 2)) (List.mem_of_getElem? (i := 16) rfl) rfl
theorem wv_yX10_takeTurn : Cond.selects "ShareMonitor$Worker" yX10_takeTurn yX10_takeTurn ∈ n_tb := n_sel (q := (yX10_takeTurn, 2)) (List.mem_of_getElem? (i := 17) rfl) rfl
theorem wv_yX10_useSemaphore : Cond.selects "ShareMonitor$Worker" yX10_useSemaphore yX10_useSemaphore ∈ n_tb := n_sel (q := (yX10_useSemaphore, 2)) (List.mem_of_getElem? (i := 18) rfl) rfl
theorem wv_yX10_settle : Cond.selects "ShareMonitor$Worker" yX10_settle yX10_settle ∈ n_tb := n_sel (q := (yX10_settle, 2)) (List.mem_of_getElem? (i := 19) rfl) rfl
theorem wv_yX6_findWord : Cond.selects "ShareMonitor$Reader" yX6_findWord yX6_findWord ∈ n_tb := n_sel (q := (yX6_findWord, 11)) (List.mem_of_getElem? (i := 20) rfl) rfl
theorem wv_yX6_placeBehindBlanks : Cond.selects "ShareMonitor$Reader" yX6_placeBehindBlanks yX6_placeBehindBlanks ∈ n_tb := n_sel (q := (yX6_placeBehindBlanks, 11)) (List.mem_of_getElem? (i := 21) rfl) rfl
theorem wv_yX6_readWord : Cond.selects "ShareMonitor$Reader" yX6_readWord yX6_readWord ∈ n_tb := n_sel (q := (yX6_readWord, 11)) (List.mem_of_getElem? (i := 22) rfl) rfl
theorem wv_yX6_numberHere : Cond.selects "ShareMonitor$Reader" yX6_numberHere yX6_numberHere ∈ n_tb := n_sel (q := (yX6_numberHere, 11)) (List.mem_of_getElem? (i := 23) rfl) rfl
theorem wv_yX6_addInstruction : Cond.selects "ShareMonitor$Reader" yX6_addInstruction yX6_addInstruction ∈ n_tb := n_sel (q := (yX6_addInstruction, 11)) (List.mem_of_getElem? (i := 24) rfl) rfl
theorem wv_yX6_blame : Cond.selects "ShareMonitor$Reader" yX6_blame yX6_blame ∈ n_tb := n_sel (q := (yX6_blame, 11)) (List.mem_of_getElem? (i := 25) rfl) rfl
theorem wv_yX6_readName : Cond.selects "ShareMonitor$Reader" yX6_readName yX6_readName ∈ n_tb := n_sel (q := (yX6_readName, 11)) (List.mem_of_getElem? (i := 26) rfl) rfl
theorem wv_yX6_isName : Cond.selects "ShareMonitor$Reader" yX6_isName yX6_isName ∈ n_tb := n_sel (q := (yX6_isName, 11)) (List.mem_of_getElem? (i := 27) rfl) rfl
theorem wv_yX6_addLabel : Cond.selects "ShareMonitor$Reader" yX6_addLabel yX6_addLabel ∈ n_tb := n_sel (q := (yX6_addLabel, 11)) (List.mem_of_getElem? (i := 28) rfl) rfl
theorem wv_yX6_targetOf : Cond.selects "ShareMonitor$Reader" yX6_targetOf yX6_targetOf ∈ n_tb := n_sel (q := (yX6_targetOf, 11)) (List.mem_of_getElem? (i := 29) rfl) rfl
theorem wv_yX6_findTargets : Cond.selects "ShareMonitor$Reader" yX6_findTargets yX6_findTargets ∈ n_tb := n_sel (q := (yX6_findTargets, 11)) (List.mem_of_getElem? (i := 30) rfl) rfl
theorem wv_yX12_free : Cond.selects "ShareMonitorModel" yX12_free yX12_free ∈ n_tb := n_sel (q := (yX12_free, 53)) (List.mem_of_getElem? (i := 31) rfl) rfl
theorem wv_yX12_readAll : Cond.selects "ShareMonitorModel" yX12_readAll yX12_readAll ∈ n_tb := n_sel (q := (yX12_readAll, 53)) (List.mem_of_getElem? (i := 32) rfl) rfl
theorem wv_yX12_takeWord : Cond.selects "ShareMonitorModel" yX12_takeWord yX12_takeWord ∈ n_tb := n_sel (q := (yX12_takeWord, 53)) (List.mem_of_getElem? (i := 33) rfl) rfl
theorem wv_yX12_byteOf : Cond.selects "ShareMonitorModel" yX12_byteOf yX12_byteOf ∈ n_tb := n_sel (q := (yX12_byteOf, 53)) (List.mem_of_getElem? (i := 34) rfl) rfl
theorem wv_yX12_readWord : Cond.selects "ShareMonitorModel" yX12_readWord yX12_readWord ∈ n_tb := n_sel (q := (yX12_readWord, 53)) (List.mem_of_getElem? (i := 35) rfl) rfl
theorem wv_yX12_operation : Cond.selects "ShareMonitorModel" yX12_operation yX12_operation ∈ n_tb := n_sel (q := (yX12_operation, 53)) (List.mem_of_getElem? (i := 36) rfl) rfl
theorem wv_yX12_readLabel : Cond.selects "ShareMonitorModel" yX12_readLabel yX12_readLabel ∈ n_tb := n_sel (q := (yX12_readLabel, 53)) (List.mem_of_getElem? (i := 37) rfl) rfl
theorem wv_yX12_isName : Cond.selects "ShareMonitorModel" yX12_isName yX12_isName ∈ n_tb := n_sel (q := (yX12_isName, 53)) (List.mem_of_getElem? (i := 38) rfl) rfl
theorem wv_yX12_flaw : Cond.selects "ShareMonitorModel" yX12_flaw yX12_flaw ∈ n_tb := n_sel (q := (yX12_flaw, 53)) (List.mem_of_getElem? (i := 39) rfl) rfl
theorem wv_yX12_labelOf : Cond.selects "ShareMonitorModel" yX12_labelOf yX12_labelOf ∈ n_tb := n_sel (q := (yX12_labelOf, 53)) (List.mem_of_getElem? (i := 40) rfl) rfl
theorem wv_yX12_isNumber : Cond.selects "ShareMonitorModel" yX12_isNumber yX12_isNumber ∈ n_tb := n_sel (q := (yX12_isNumber, 53)) (List.mem_of_getElem? (i := 41) rfl) rfl
theorem wv_yX12_valueOfWord : Cond.selects "ShareMonitorModel" yX12_valueOfWord yX12_valueOfWord ∈ n_tb := n_sel (q := (yX12_valueOfWord, 53)) (List.mem_of_getElem? (i := 42) rfl) rfl
theorem wv_yX12_put : Cond.selects "ShareMonitorModel" yX12_put yX12_put ∈ n_tb := n_sel (q := (yX12_put, 53)) (List.mem_of_getElem? (i := 43) rfl) rfl
theorem wv_yX12_start : Cond.selects "ShareMonitorModel" yX12_start yX12_start ∈ n_tb := n_sel (q := (yX12_start, 53)) (List.mem_of_getElem? (i := 44) rfl) rfl
theorem wv_yX12_wake : Cond.selects "ShareMonitorModel" yX12_wake yX12_wake ∈ n_tb := n_sel (q := (yX12_wake, 53)) (List.mem_of_getElem? (i := 45) rfl) rfl
theorem wv_yX12_joinRow : Cond.selects "ShareMonitorModel" yX12_joinRow yX12_joinRow ∈ n_tb := n_sel (q := (yX12_joinRow, 53)) (List.mem_of_getElem? (i := 46) rfl) rfl
theorem wv_yX12_turn : Cond.selects "ShareMonitorModel" yX12_turn yX12_turn ∈ n_tb := n_sel (q := (yX12_turn, 53)) (List.mem_of_getElem? (i := 47) rfl) rfl
theorem wv_yX12_wakeSleepers : Cond.selects "ShareMonitorModel" yX12_wakeSleepers yX12_wakeSleepers ∈ n_tb := n_sel (q := (yX12_wakeSleepers, 53)) (List.mem_of_getElem? (i := 48) rfl) rfl
theorem wv_yX12_act : Cond.selects "ShareMonitorModel" yX12_act yX12_act ∈ n_tb := n_sel (q := (yX12_act, 53)) (List.mem_of_getElem? (i := 49) rfl) rfl
theorem wv_yX12_finish : Cond.selects "ShareMonitorModel" yX12_finish yX12_finish ∈ n_tb := n_sel (q := (yX12_finish, 53)) (List.mem_of_getElem? (i := 50) rfl) rfl
theorem wv_yX12_leaveRow : Cond.selects "ShareMonitorModel" yX12_leaveRow yX12_leaveRow ∈ n_tb := n_sel (q := (yX12_leaveRow, 53)) (List.mem_of_getElem? (i := 51) rfl) rfl
theorem wv_yX12_leaveSemaphore : Cond.selects "ShareMonitorModel" yX12_leaveSemaphore yX12_leaveSemaphore ∈ n_tb := n_sel (q := (yX12_leaveSemaphore, 53)) (List.mem_of_getElem? (i := 52) rfl) rfl
theorem wv_yX12_joinBlocks : Cond.selects "ShareMonitorModel" yX12_joinBlocks yX12_joinBlocks ∈ n_tb := n_sel (q := (yX12_joinBlocks, 53)) (List.mem_of_getElem? (i := 53) rfl) rfl
theorem wv_yX12_release : Cond.selects "ShareMonitorModel" yX12_release yX12_release ∈ n_tb := n_sel (q := (yX12_release, 53)) (List.mem_of_getElem? (i := 54) rfl) rfl
theorem wv_yX12_sweep : Cond.selects "ShareMonitorModel" yX12_sweep yX12_sweep ∈ n_tb := n_sel (q := (yX12_sweep, 53)) (List.mem_of_getElem? (i := 55) rfl) rfl
theorem wv_yX12_fits : Cond.selects "ShareMonitorModel" yX12_fits yX12_fits ∈ n_tb := n_sel (q := (yX12_fits, 53)) (List.mem_of_getElem? (i := 56) rfl) rfl
theorem wv_yX12_result : Cond.selects "ShareMonitorModel" yX12_result yX12_result ∈ n_tb := n_sel (q := (yX12_result, 53)) (List.mem_of_getElem? (i := 57) rfl) rfl
theorem wv_yX12_push : Cond.selects "ShareMonitorModel" yX12_push yX12_push ∈ n_tb := n_sel (q := (yX12_push, 53)) (List.mem_of_getElem? (i := 58) rfl) rfl
theorem wv_yX12_done : Cond.selects "ShareMonitorModel" yX12_done yX12_done ∈ n_tb := n_sel (q := (yX12_done, 53)) (List.mem_of_getElem? (i := 59) rfl) rfl
theorem wv_yX12_plain : Cond.selects "ShareMonitorModel" yX12_plain yX12_plain ∈ n_tb := n_sel (q := (yX12_plain, 53)) (List.mem_of_getElem? (i := 60) rfl) rfl
theorem wv_yX12_top : Cond.selects "ShareMonitorModel" yX12_top yX12_top ∈ n_tb := n_sel (q := (yX12_top, 53)) (List.mem_of_getElem? (i := 61) rfl) rfl
theorem wv_yX12_setTop : Cond.selects "ShareMonitorModel" yX12_setTop yX12_setTop ∈ n_tb := n_sel (q := (yX12_setTop, 53)) (List.mem_of_getElem? (i := 62) rfl) rfl
theorem wv_yX12_memory : Cond.selects "ShareMonitorModel" yX12_memory yX12_memory ∈ n_tb := n_sel (q := (yX12_memory, 53)) (List.mem_of_getElem? (i := 63) rfl) rfl
theorem wv_yX12_holds : Cond.selects "ShareMonitorModel" yX12_holds yX12_holds ∈ n_tb := n_sel (q := (yX12_holds, 53)) (List.mem_of_getElem? (i := 64) rfl) rfl
theorem wv_yX12_allocate : Cond.selects "ShareMonitorModel" yX12_allocate yX12_allocate ∈ n_tb := n_sel (q := (yX12_allocate, 53)) (List.mem_of_getElem? (i := 65) rfl) rfl
theorem wv_yX12_blockFrom : Cond.selects "ShareMonitorModel" yX12_blockFrom yX12_blockFrom ∈ n_tb := n_sel (q := (yX12_blockFrom, 53)) (List.mem_of_getElem? (i := 66) rfl) rfl
theorem wv_yX12_isAlive : Cond.selects "ShareMonitorModel" yX12_isAlive yX12_isAlive ∈ n_tb := n_sel (q := (yX12_isAlive, 53)) (List.mem_of_getElem? (i := 67) rfl) rfl
theorem wv_yX12_isProcess : Cond.selects "ShareMonitorModel" yX12_isProcess yX12_isProcess ∈ n_tb := n_sel (q := (yX12_isProcess, 53)) (List.mem_of_getElem? (i := 68) rfl) rfl
theorem wv_yX12_others : Cond.selects "ShareMonitorModel" yX12_others yX12_others ∈ n_tb := n_sel (q := (yX12_others, 53)) (List.mem_of_getElem? (i := 69) rfl) rfl
theorem wv_yX12_spawn : Cond.selects "ShareMonitorModel" yX12_spawn yX12_spawn ∈ n_tb := n_sel (q := (yX12_spawn, 53)) (List.mem_of_getElem? (i := 70) rfl) rfl
theorem wv_yX12_deliver : Cond.selects "ShareMonitorModel" yX12_deliver yX12_deliver ∈ n_tb := n_sel (q := (yX12_deliver, 53)) (List.mem_of_getElem? (i := 71) rfl) rfl
theorem wv_yX12_receive : Cond.selects "ShareMonitorModel" yX12_receive yX12_receive ∈ n_tb := n_sel (q := (yX12_receive, 53)) (List.mem_of_getElem? (i := 72) rfl) rfl
theorem wv_yX12_waitFor : Cond.selects "ShareMonitorModel" yX12_waitFor yX12_waitFor ∈ n_tb := n_sel (q := (yX12_waitFor, 53)) (List.mem_of_getElem? (i := 73) rfl) rfl
theorem wv_yX12_await : Cond.selects "ShareMonitorModel" yX12_await yX12_await ∈ n_tb := n_sel (q := (yX12_await, 53)) (List.mem_of_getElem? (i := 74) rfl) rfl
theorem wv_yX12_isChild : Cond.selects "ShareMonitorModel" yX12_isChild yX12_isChild ∈ n_tb := n_sel (q := (yX12_isChild, 53)) (List.mem_of_getElem? (i := 75) rfl) rfl
theorem wv_yX12_shares : Cond.selects "ShareMonitorModel" yX12_shares yX12_shares ∈ n_tb := n_sel (q := (yX12_shares, 53)) (List.mem_of_getElem? (i := 76) rfl) rfl
theorem wv_yX12_toEnd : Cond.selects "ShareMonitorModel" yX12_toEnd yX12_toEnd ∈ n_tb := n_sel (q := (yX12_toEnd, 53)) (List.mem_of_getElem? (i := 77) rfl) rfl
theorem wv_yX12_semaphore : Cond.selects "ShareMonitorModel" yX12_semaphore yX12_semaphore ∈ n_tb := n_sel (q := (yX12_semaphore, 53)) (List.mem_of_getElem? (i := 78) rfl) rfl
theorem wv_yX12_held : Cond.selects "ShareMonitorModel" yX12_held yX12_held ∈ n_tb := n_sel (q := (yX12_held, 53)) (List.mem_of_getElem? (i := 79) rfl) rfl
theorem wv_yX12_processes : Cond.selects "ShareMonitorModel" yX12_processes yX12_processes ∈ n_tb := n_sel (q := (yX12_processes, 53)) (List.mem_of_getElem? (i := 80) rfl) rfl
